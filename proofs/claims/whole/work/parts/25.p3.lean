/-! ===== printed by wip/whole/gen.py: contracts of PeelReadings$Slice ===== -/
set_option maxRecDepth 100000 in
set_option maxHeartbeats 4000000 in
theorem cc_X3_clear {l : Launch} {D : va_G} {cI : ClassId} {tL : Nat} (ad : Nat → Nat) (size : Int32) (need : Int32) (lifted : Int32) (licked : Int32) (morning : Int32) (tally : Int32) (kinds : Nat → Int32) (places : Nat → Int32) (lengths : Nat → Int32) (downs : Nat → Int32) (covers : Nat → Int32) (size' : Int32) (need' : Int32) (lifted' : Int32) (licked' : Int32) (morning' : Int32) (tally' : Int32) (h : fX3_clear = some (size', need', lifted', licked', morning', tally')) : Cv l D cI tL yX3_clear cX3_clear 1 rmX3_clear (wX3 cI ad size need lifted licked morning tally kinds places lengths downs covers) [.ref (ad 0)] (wX3 cI ad size' need' lifted' licked' morning' tally' kinds places lengths downs covers) := by
  refine Cv_of (own := RX3) (by decide) (Nat.le_of_ble_eq_true rfl) rfl ?_
  intro p e s m below meth c Q A AV hc hret ls hl hG
  obtain ⟨hx, hb, hml, hown, hts, hK, hA, hz⟩ := id hc
  have hl : lv_has ls 1 [(0, .ref (ad 0))] := hl
  unfold fX3_clear at h
  refine lv_aload_n hx hb dX3_clear_0 rfl (lv_at hl 0 rfl) ?_
  refine lv_iconst (v := 0) hx hb dX3_clear_1 (by decide) ?_
  refine x_put (ws' := (wX3 cI ad 0 need lifted licked morning tally kinds places lengths downs covers)) hc hG 0 rfl iX3 tyX3 tyX3_ok nmX3 5 lX3_27 rfl rfl rfl (Nat.le_of_ble_eq_true rfl) rfl dX3_clear_2 (fun H locs hG => ?_)
  refine lv_aload_n hx hb dX3_clear_5 rfl (lv_at hl 0 rfl) ?_
  refine lv_iconst (v := 0) hx hb dX3_clear_6 (by decide) ?_
  refine x_put (ws' := (wX3 cI ad 0 0 lifted licked morning tally kinds places lengths downs covers)) hc hG 0 rfl iX3 tyX3 tyX3_ok nmX3 6 lX3_31 rfl rfl rfl (Nat.le_of_ble_eq_true rfl) rfl dX3_clear_7 (fun H locs hG => ?_)
  refine lv_aload_n hx hb dX3_clear_10 rfl (lv_at hl 0 rfl) ?_
  refine lv_iconst (v := 0) hx hb dX3_clear_11 (by decide) ?_
  refine x_put (ws' := (wX3 cI ad 0 0 0 licked morning tally kinds places lengths downs covers)) hc hG 0 rfl iX3 tyX3 tyX3_ok nmX3 7 lX3_34 rfl rfl rfl (Nat.le_of_ble_eq_true rfl) rfl dX3_clear_12 (fun H locs hG => ?_)
  refine lv_aload_n hx hb dX3_clear_15 rfl (lv_at hl 0 rfl) ?_
  refine lv_iconst (v := 0) hx hb dX3_clear_16 (by decide) ?_
  refine x_put (ws' := (wX3 cI ad 0 0 0 0 morning tally kinds places lengths downs covers)) hc hG 0 rfl iX3 tyX3 tyX3_ok nmX3 8 lX3_37 rfl rfl rfl (Nat.le_of_ble_eq_true rfl) rfl dX3_clear_17 (fun H locs hG => ?_)
  refine lv_aload_n hx hb dX3_clear_20 rfl (lv_at hl 0 rfl) ?_
  refine lv_iconst (v := 0) hx hb dX3_clear_21 (by decide) ?_
  refine x_put (ws' := (wX3 cI ad 0 0 0 0 0 tally kinds places lengths downs covers)) hc hG 0 rfl iX3 tyX3 tyX3_ok nmX3 9 lX3_40 rfl rfl rfl (Nat.le_of_ble_eq_true rfl) rfl dX3_clear_22 (fun H locs hG => ?_)
  refine lv_aload_n hx hb dX3_clear_25 rfl (lv_at hl 0 rfl) ?_
  refine lv_iconst (v := 0) hx hb dX3_clear_26 (by decide) ?_
  refine x_put (ws' := (wX3 cI ad 0 0 0 0 0 0 kinds places lengths downs covers)) hc hG 0 rfl iX3 tyX3 tyX3_ok nmX3 10 lX3_43 rfl rfl rfl (Nat.le_of_ble_eq_true rfl) rfl dX3_clear_27 (fun H locs hG => ?_)
  cases h
  exact hret _ _ _ _ hG dX3_clear_30
set_option maxRecDepth 100000 in
set_option maxHeartbeats 4000000 in
theorem cc_X3_has {l : Launch} {D : va_G} {cI : ClassId} {tL : Nat} (ad : Nat → Nat) (size : Int32) (need : Int32) (lifted : Int32) (licked : Int32) (morning : Int32) (tally : Int32) (kinds : Nat → Int32) (places : Nat → Int32) (lengths : Nat → Int32) (downs : Nat → Int32) (covers : Nat → Int32) (x1 : Int32) (r' : Int32) (h : fX3_has size x1 = some r') : Ci l D cI tL yX3_has cX3_has 2 .boolean rmX3_has (wX3 cI ad size need lifted licked morning tally kinds places lengths downs covers) [.ref (ad 0), .int x1] r' (wX3 cI ad size need lifted licked morning tally kinds places lengths downs covers) := by
  refine Ci_of (own := RX3) (by decide) (Nat.le_of_ble_eq_true rfl) rfl ?_
  intro p e s m below meth c Q A AV hc hret ls hl hG
  obtain ⟨hx, hb, hml, hown, hts, hK, hA, hz⟩ := id hc
  have hl : lv_has ls 2 [(0, .ref (ad 0)), (1, .int x1)] := hl
  unfold fX3_has at h
  refine lv_iload_n hx hb dX3_has_0 rfl (lv_at hl 1 rfl) ?_
  refine lv_if_lt (tgt := 22) hx hb dX3_has_1 (by decide) (fun c1 => ?_) (fun c1 => ?_)
  · rw [if_pos c1] at h
    refine lv_iconst (v := 0) hx hb dX3_has_22 (by decide) ?_
    cases h
    exact hret _ _ _ _ hG dX3_has_23 rfl
  · rw [if_neg c1] at h
    refine lv_iload_n hx hb dX3_has_4 rfl (lv_at hl 1 rfl) ?_
    refine lv_aload_n hx hb dX3_has_5 rfl (lv_at hl 0 rfl) ?_
    refine x_get hc hG 0 rfl iX3 5 lX3_27 rfl dX3_has_6 ?_
    refine lv_icmp_ge (tgt := 22) hx hb dX3_has_9 (by decide) (fun c9 => ?_) (fun c9 => ?_)
    · rw [if_pos c9] at h
      refine lv_iconst (v := 0) hx hb dX3_has_22 (by decide) ?_
      cases h
      exact hret _ _ _ _ hG dX3_has_23 rfl
    · rw [if_neg c9] at h
      refine lv_iload_n hx hb dX3_has_12 rfl (lv_at hl 1 rfl) ?_
      refine lv_bipush (v := 6) hx hb dX3_has_13 (by decide) ?_
      refine lv_icmp_ge (tgt := 22) hx hb dX3_has_15 (by decide) (fun c15 => ?_) (fun c15 => ?_)
      · rw [if_pos c15] at h
        refine lv_iconst (v := 0) hx hb dX3_has_22 (by decide) ?_
        cases h
        exact hret _ _ _ _ hG dX3_has_23 rfl
      · rw [if_neg c15] at h
        refine lv_iconst (v := 1) hx hb dX3_has_18 (by decide) ?_
        refine lv_goto (tgt := 23) hx hb dX3_has_19 (by decide) ?_
        cases h
        exact hret _ _ _ _ hG dX3_has_23 rfl
set_option maxRecDepth 100000 in
set_option maxHeartbeats 4000000 in
theorem cc_X3_reach {l : Launch} {D : va_G} {cI : ClassId} {tL : Nat} (x0 : Int32) (x1 : Int32) (x2 : Int32) (r' : Int32) (h : fX3_reach x0 x1 x2 = some r') : Ci l D cI tL yX3_reach cX3_reach 4 .int rmX3_reach [] [.int x0, .int x1, .int x2] r' [] := by
  refine Ci_of (own := RX3) (by decide) (Nat.le_of_ble_eq_true rfl) rfl ?_
  intro p e s m below meth c Q A AV hc hret ls hl hG
  obtain ⟨hx, hb, hml, hown, hts, hK, hA, hz⟩ := id hc
  have hl : lv_has ls 4 [(0, .int x0), (1, .int x1), (2, .int x2)] := hl
  unfold fX3_reach at h
  refine lv_iload_n hx hb dX3_reach_0 rfl (lv_at hl 2 rfl) ?_
  refine lv_iconst (v := 1) hx hb dX3_reach_1 (by decide) ?_
  refine lv_icmp_ne (tgt := 37) hx hb dX3_reach_2 (by decide) (fun c2 => ?_) (fun c2 => ?_)
  · rw [if_neg c2] at h
    refine lv_iload_n hx hb dX3_reach_37 rfl (lv_at hl 1 rfl) ?_
    refine lv_iload_n hx hb dX3_reach_38 rfl (lv_at hl 0 rfl) ?_
    refine lv_iconst (v := 4) hx hb dX3_reach_39 (by decide) ?_
    refine lv_irem hx hb dX3_reach_40 (by decide) ?_
    refine lv_ishl hx hb dX3_reach_41 ?_
    refine lv_bipush (v := 15) hx hb dX3_reach_42 (by decide) ?_
    refine lv_iand hx hb dX3_reach_44 ?_
    refine lv_iload_n hx hb dX3_reach_45 rfl (lv_at hl 0 rfl) ?_
    refine lv_iconst (v := 4) hx hb dX3_reach_46 (by decide) ?_
    refine lv_idiv hx hb dX3_reach_47 (by decide) ?_
    refine lv_iconst (v := 4) hx hb dX3_reach_48 (by decide) ?_
    refine lv_imul hx hb dX3_reach_49 ?_
    refine lv_ishl hx hb dX3_reach_50 ?_
    cases h
    exact hret _ _ _ _ hG dX3_reach_51 rfl
  · rw [if_pos c2] at h
    refine lv_iload_n hx hb dX3_reach_5 rfl (lv_at hl 1 rfl) ?_
    refine lv_iconst (v := 1) hx hb dX3_reach_6 (by decide) ?_
    refine lv_iand hx hb dX3_reach_7 ?_
    refine lv_iload_n hx hb dX3_reach_8 rfl (lv_at hl 1 rfl) ?_
    refine lv_iconst (v := 2) hx hb dX3_reach_9 (by decide) ?_
    refine lv_iand hx hb dX3_reach_10 ?_
    refine lv_iconst (v := 3) hx hb dX3_reach_11 (by decide) ?_
    refine lv_ishl hx hb dX3_reach_12 ?_
    refine lv_ior hx hb dX3_reach_13 ?_
    refine lv_iload_n hx hb dX3_reach_14 rfl (lv_at hl 1 rfl) ?_
    refine lv_iconst (v := 4) hx hb dX3_reach_15 (by decide) ?_
    refine lv_iand hx hb dX3_reach_16 ?_
    refine lv_bipush (v := 6) hx hb dX3_reach_17 (by decide) ?_
    refine lv_ishl hx hb dX3_reach_19 ?_
    refine lv_ior hx hb dX3_reach_20 ?_
    refine lv_iload_n hx hb dX3_reach_21 rfl (lv_at hl 1 rfl) ?_
    refine lv_bipush (v := 8) hx hb dX3_reach_22 (by decide) ?_
    refine lv_iand hx hb dX3_reach_24 ?_
    refine lv_bipush (v := 9) hx hb dX3_reach_25 (by decide) ?_
    refine lv_ishl hx hb dX3_reach_27 ?_
    refine lv_ior hx hb dX3_reach_28 ?_
    refine lv_istore_n (lv' := [(3, .int ((((x1 &&& 1) ||| ((x1 &&& 2) <<< ((3 : Int32) &&& 31))) ||| ((x1 &&& 4) <<< ((6 : Int32) &&& 31))) ||| ((x1 &&& 8) <<< ((9 : Int32) &&& 31)))), (0, .int x0), (1, .int x1), (2, .int x2)]) hx hb dX3_reach_29 rfl hl (by decide) rfl (fun ls hl => ?_)
    refine lv_iload_n hx hb dX3_reach_30 rfl (lv_at hl 0 rfl) ?_
    refine lv_iload_n hx hb dX3_reach_31 rfl (lv_at hl 1 rfl) ?_
    refine lv_ishl hx hb dX3_reach_32 ?_
    refine lv_ldc (v := 65535) hx hb hown (hts _ kX3_77) dX3_reach_33 ?_
    refine lv_iand hx hb dX3_reach_35 ?_
    cases h
    exact hret _ _ _ _ hG dX3_reach_36 rfl
set_option maxRecDepth 100000 in
set_option maxHeartbeats 4000000 in
theorem cc_X3_coverBy {l : Launch} {D : va_G} {cI : ClassId} {tL : Nat} (x0 : Int32) (x1 : Int32) (x2 : Int32) (x3 : Int32) (r' : Int32) (h : fX3_coverBy x0 x1 x2 x3 = some r') : Ci l D cI tL yX3_coverBy cX3_coverBy 6 .int rmX3_coverBy [] [.int x0, .int x1, .int x2, .int x3] r' [] := by
  refine Ci_of (own := RX3) (by decide) (Nat.le_of_ble_eq_true rfl) rfl ?_
  intro p e s m below meth c Q A AV hc hret ls hl hG
  obtain ⟨hx, hb, hml, hown, hts, hK, hA, hz⟩ := id hc
  have hl : lv_has ls 6 [(0, .int x0), (1, .int x1), (2, .int x2), (3, .int x3)] := hl
  unfold fX3_coverBy at h
  refine lv_iconst (v := 1) hx hb dX3_coverBy_0 (by decide) ?_
  refine lv_iload_n hx hb dX3_coverBy_1 rfl (lv_at hl 2 rfl) ?_
  refine lv_ishl hx hb dX3_coverBy_2 ?_
  refine lv_iconst (v := 1) hx hb dX3_coverBy_3 (by decide) ?_
  refine lv_isub hx hb dX3_coverBy_4 ?_
  refine lv_istore (lv' := [(4, .int (((1 : Int32) <<< (x2 &&& 31)) - 1)), (0, .int x0), (1, .int x1), (2, .int x2), (3, .int x3)]) hx hb dX3_coverBy_5 hl (by decide) rfl (fun ls hl => ?_)
  refine lv_iload hx hb dX3_coverBy_7 (lv_at hl 0 rfl) ?_
  refine lv_iconst (v := 5) hx hb dX3_coverBy_9 (by decide) ?_
  refine lv_iand hx hb dX3_coverBy_10 ?_
  refine lv_istore (lv' := [(5, .int ((((1 : Int32) <<< (x2 &&& 31)) - 1) &&& 5)), (4, .int (((1 : Int32) <<< (x2 &&& 31)) - 1)), (0, .int x0), (1, .int x1), (2, .int x2), (3, .int x3)]) hx hb dX3_coverBy_11 hl (by decide) rfl (fun ls hl => ?_)
  refine lv_iload_n hx hb dX3_coverBy_13 rfl (lv_at hl 2 rfl) ?_
  by_cases c14_1 : x0 = 1
  · rw [if_pos c14_1] at h
    refine x_swK (tgt := 48) hx hb dX3_coverBy_14 c14_1 (by decide) (by decide) rfl (by decide) ?_
    refine lv_iload_n hx hb dX3_coverBy_48 rfl (lv_at hl 3 rfl) ?_
    refine lv_iload hx hb dX3_coverBy_49 (lv_at hl 0 rfl) ?_
    refine lv_iload_n hx hb dX3_coverBy_51 rfl (lv_at hl 5 rfl) ?_
    obtain ⟨v52, e52, h⟩ := bd1_some h
    refine x_si0 (rest := []) hc hG (cc_X3_reach x1 ((((1 : Int32) <<< (x2 &&& 31)) - 1) &&& 5) x3 v52 e52) lX3_78 ⟨rfl, rfl, by decide, by decide⟩ rfl hl.1 (Nat.le_of_ble_eq_true rfl) rfl dX3_coverBy_52 (fun H locs hG => ?_)
    cases h
    exact hret _ _ _ _ hG dX3_coverBy_55 rfl
  rw [if_neg c14_1] at h
  by_cases c14_2 : x0 = 2
  · rw [if_pos c14_2] at h
    refine x_swK (tgt := 56) hx hb dX3_coverBy_14 c14_2 (by decide) (by decide) rfl (by decide) ?_
    refine lv_iload_n hx hb dX3_coverBy_56 rfl (lv_at hl 3 rfl) ?_
    refine lv_iconst (v := 3) hx hb dX3_coverBy_57 (by decide) ?_
    refine lv_iconst (v := 0) hx hb dX3_coverBy_58 (by decide) ?_
    obtain ⟨v59, e59, h⟩ := bd1_some h
    refine x_si0 (rest := []) hc hG (cc_X3_reach x1 3 0 v59 e59) lX3_78 ⟨rfl, rfl, by decide, by decide⟩ rfl hl.1 (Nat.le_of_ble_eq_true rfl) rfl dX3_coverBy_59 (fun H locs hG => ?_)
    refine lv_iload_n hx hb dX3_coverBy_62 rfl (lv_at hl 3 rfl) ?_
    refine lv_iconst (v := 3) hx hb dX3_coverBy_63 (by decide) ?_
    refine lv_iconst (v := 0) hx hb dX3_coverBy_64 (by decide) ?_
    obtain ⟨v65, e65, h⟩ := bd1_some h
    refine x_si0 (rest := [.int v59]) hc hG (cc_X3_reach x1 3 0 v65 e65) lX3_78 ⟨rfl, rfl, by decide, by decide⟩ rfl hl.1 (Nat.le_of_ble_eq_true rfl) rfl dX3_coverBy_65 (fun H locs hG => ?_)
    refine lv_iconst (v := 4) hx hb dX3_coverBy_68 (by decide) ?_
    refine lv_ishl hx hb dX3_coverBy_69 ?_
    refine lv_ior hx hb dX3_coverBy_70 ?_
    refine lv_ldc (v := 65535) hx hb hown (hts _ kX3_77) dX3_coverBy_71 ?_
    refine lv_iand hx hb dX3_coverBy_73 ?_
    cases h
    exact hret _ _ _ _ hG dX3_coverBy_74 rfl
  rw [if_neg c14_2] at h
  by_cases c14_3 : x0 = 3
  · rw [if_pos c14_3] at h
    refine x_swK (tgt := 75) hx hb dX3_coverBy_14 c14_3 (by decide) (by decide) rfl (by decide) ?_
    refine lv_iload_n hx hb dX3_coverBy_75 rfl (lv_at hl 3 rfl) ?_
    refine lv_iload hx hb dX3_coverBy_76 (lv_at hl 1 rfl) ?_
    refine lv_iload_n hx hb dX3_coverBy_78 rfl (lv_at hl 5 rfl) ?_
    obtain ⟨v79, e79, h⟩ := bd1_some h
    refine x_si0 (rest := []) hc hG (cc_X3_reach x1 (((1 : Int32) <<< (x2 &&& 31)) - 1) x3 v79 e79) lX3_78 ⟨rfl, rfl, by decide, by decide⟩ rfl hl.1 (Nat.le_of_ble_eq_true rfl) rfl dX3_coverBy_79 (fun H locs hG => ?_)
    refine lv_iload_n hx hb dX3_coverBy_82 rfl (lv_at hl 3 rfl) ?_
    refine lv_iconst (v := 3) hx hb dX3_coverBy_83 (by decide) ?_
    refine lv_iconst (v := 1) hx hb dX3_coverBy_84 (by decide) ?_
    refine lv_iload_n hx hb dX3_coverBy_85 rfl (lv_at hl 5 rfl) ?_
    refine lv_isub hx hb dX3_coverBy_86 ?_
    obtain ⟨v87, e87, h⟩ := bd1_some h
    refine x_si0 (rest := [.int v79]) hc hG (cc_X3_reach x1 3 (1 - x3) v87 e87) lX3_78 ⟨rfl, rfl, by decide, by decide⟩ rfl hl.1 (Nat.le_of_ble_eq_true rfl) rfl dX3_coverBy_87 (fun H locs hG => ?_)
    refine lv_ior hx hb dX3_coverBy_90 ?_
    cases h
    exact hret _ _ _ _ hG dX3_coverBy_91 rfl
  rw [if_neg c14_3] at h
  by_cases c14_4 : x0 = 4
  · rw [if_pos c14_4] at h
    refine x_swK (tgt := 92) hx hb dX3_coverBy_14 c14_4 (by decide) (by decide) rfl (by decide) ?_
    refine lv_iload_n hx hb dX3_coverBy_92 rfl (lv_at hl 3 rfl) ?_
    refine lv_iload hx hb dX3_coverBy_93 (lv_at hl 0 rfl) ?_
    refine lv_iconst (v := 0) hx hb dX3_coverBy_95 (by decide) ?_
    obtain ⟨v96, e96, h⟩ := bd1_some h
    refine x_si0 (rest := []) hc hG (cc_X3_reach x1 ((((1 : Int32) <<< (x2 &&& 31)) - 1) &&& 5) 0 v96 e96) lX3_78 ⟨rfl, rfl, by decide, by decide⟩ rfl hl.1 (Nat.le_of_ble_eq_true rfl) rfl dX3_coverBy_96 (fun H locs hG => ?_)
    refine lv_iload_n hx hb dX3_coverBy_99 rfl (lv_at hl 3 rfl) ?_
    refine lv_iload hx hb dX3_coverBy_100 (lv_at hl 0 rfl) ?_
    refine lv_iconst (v := 1) hx hb dX3_coverBy_102 (by decide) ?_
    obtain ⟨v103, e103, h⟩ := bd1_some h
    refine x_si0 (rest := [.int v96]) hc hG (cc_X3_reach x1 ((((1 : Int32) <<< (x2 &&& 31)) - 1) &&& 5) 1 v103 e103) lX3_78 ⟨rfl, rfl, by decide, by decide⟩ rfl hl.1 (Nat.le_of_ble_eq_true rfl) rfl dX3_coverBy_103 (fun H locs hG => ?_)
    refine lv_ior hx hb dX3_coverBy_106 ?_
    cases h
    exact hret _ _ _ _ hG dX3_coverBy_107 rfl
  rw [if_neg c14_4] at h
  by_cases c14_5 : x0 = 5
  · rw [if_pos c14_5] at h
    refine x_swK (tgt := 108) hx hb dX3_coverBy_14 c14_5 (by decide) (by decide) rfl (by decide) ?_
    refine lv_iconst (v := 1) hx hb dX3_coverBy_108 (by decide) ?_
    refine lv_iload_n hx hb dX3_coverBy_109 rfl (lv_at hl 3 rfl) ?_
    refine lv_ishl hx hb dX3_coverBy_110 ?_
    cases h
    exact hret _ _ _ _ hG dX3_coverBy_111 rfl
  rw [if_neg c14_5] at h
  refine x_swD (tgt := 112) hx hb dX3_coverBy_14 [1, 2, 3, 4, 5] (by decide) (List.forall_mem_cons.mpr ⟨lv_neT c14_1 (by decide), (List.forall_mem_cons.mpr ⟨lv_neT c14_2 (by decide), (List.forall_mem_cons.mpr ⟨lv_neT c14_3 (by decide), (List.forall_mem_cons.mpr ⟨lv_neT c14_4 (by decide), (List.forall_mem_cons.mpr ⟨lv_neT c14_5 (by decide), (List.forall_mem_nil _)⟩)⟩)⟩)⟩)⟩) (by decide) ?_
  refine lv_iload_n hx hb dX3_coverBy_112 rfl (lv_at hl 3 rfl) ?_
  refine lv_iload hx hb dX3_coverBy_113 (lv_at hl 1 rfl) ?_
  refine lv_iload_n hx hb dX3_coverBy_115 rfl (lv_at hl 5 rfl) ?_
  obtain ⟨v116, e116, h⟩ := bd1_some h
  refine x_si0 (rest := []) hc hG (cc_X3_reach x1 (((1 : Int32) <<< (x2 &&& 31)) - 1) x3 v116 e116) lX3_78 ⟨rfl, rfl, by decide, by decide⟩ rfl hl.1 (Nat.le_of_ble_eq_true rfl) rfl dX3_coverBy_116 (fun H locs hG => ?_)
  cases h
  exact hret _ _ _ _ hG dX3_coverBy_119 rfl
set_option maxRecDepth 100000 in
set_option maxHeartbeats 4000000 in
theorem cc_X3_settle {l : Launch} {D : va_G} {cI : ClassId} {tL : Nat} (ad : Nat → Nat) (size : Int32) (need : Int32) (lifted : Int32) (licked : Int32) (morning : Int32) (tally : Int32) (kinds : Nat → Int32) (places : Nat → Int32) (lengths : Nat → Int32) (downs : Nat → Int32) (covers : Nat → Int32) (x1 : Int32) (x2 : Int32) (x3 : Int32) (places' : Nat → Int32) (downs' : Nat → Int32) (covers' : Nat → Int32) (h : fX3_settle size kinds places lengths downs covers x1 x2 x3 = some (places', downs', covers')) : Cv l D cI tL yX3_settle cX3_settle 4 rmX3_settle (wX3 cI ad size need lifted licked morning tally kinds places lengths downs covers) [.ref (ad 0), .int x1, .int x2, .int x3] (wX3 cI ad size need lifted licked morning tally kinds places' lengths downs' covers') := by
  refine Cv_of (own := RX3) (by decide) (Nat.le_of_ble_eq_true rfl) rfl ?_
  intro p e s m below meth c Q A AV hc hret ls hl hG
  obtain ⟨hx, hb, hml, hown, hts, hK, hA, hz⟩ := id hc
  have hl : lv_has ls 4 [(0, .ref (ad 0)), (1, .int x1), (2, .int x2), (3, .int x3)] := hl
  unfold fX3_settle at h
  refine lv_aload_n hx hb dX3_settle_0 rfl (lv_at hl 0 rfl) ?_
  refine lv_iload_n hx hb dX3_settle_1 rfl (lv_at hl 1 rfl) ?_
  obtain ⟨v2, e2, h⟩ := bd1_some h
  refine x_vi (rest := []) (ws' := (wX3 cI ad size need lifted licked morning tally kinds places lengths downs covers)) hc hG (cc_X3_has ad size need lifted licked morning tally kinds places lengths downs covers x1 v2 e2) [0, 1, 2, 3, 4, 5] [] [0, 1, 2, 3, 4, 5] rfl rfl rfl 0 rfl rfl lX3_50 ⟨rfl, rfl, by decide, by decide⟩ rfl hl.1 (Nat.le_of_ble_eq_true rfl) rfl dX3_settle_2 (fun H locs hG => ?_)
  refine lv_if_eq (tgt := 45) hx hb dX3_settle_5 (by decide) (fun c5 => ?_) (fun c5 => ?_)
  · rw [if_pos c5] at h
    cases h
    exact hret _ _ _ _ hG dX3_settle_45
  · rw [if_neg c5] at h
    refine lv_aload_n hx hb dX3_settle_8 rfl (lv_at hl 0 rfl) ?_
    refine x_get hc hG 0 rfl iX3 1 lX3_15 rfl dX3_settle_9 ?_
    refine lv_iload_n hx hb dX3_settle_12 rfl (lv_at hl 1 rfl) ?_
    refine lv_iload_n hx hb dX3_settle_13 rfl (lv_at hl 2 rfl) ?_
    obtain ⟨places_14, e14, h⟩ := bd1_some h
    refine x_ast (ws' := (wX3 cI ad size need lifted licked morning tally kinds places_14 lengths downs covers)) hc hG 2 rfl e14 rfl dX3_settle_14 (fun H locs hG => ?_)
    refine lv_aload_n hx hb dX3_settle_15 rfl (lv_at hl 0 rfl) ?_
    refine x_get hc hG 0 rfl iX3 3 lX3_21 rfl dX3_settle_16 ?_
    refine lv_iload_n hx hb dX3_settle_19 rfl (lv_at hl 1 rfl) ?_
    refine lv_iload_n hx hb dX3_settle_20 rfl (lv_at hl 3 rfl) ?_
    obtain ⟨downs_21, e21, h⟩ := bd1_some h
    refine x_ast (ws' := (wX3 cI ad size need lifted licked morning tally kinds places_14 lengths downs_21 covers)) hc hG 4 rfl e21 rfl dX3_settle_21 (fun H locs hG => ?_)
    refine lv_aload_n hx hb dX3_settle_22 rfl (lv_at hl 0 rfl) ?_
    refine x_get hc hG 0 rfl iX3 4 lX3_24 rfl dX3_settle_23 ?_
    refine lv_iload_n hx hb dX3_settle_26 rfl (lv_at hl 1 rfl) ?_
    refine lv_aload_n hx hb dX3_settle_27 rfl (lv_at hl 0 rfl) ?_
    refine x_get hc hG 0 rfl iX3 0 lX3_9 rfl dX3_settle_28 ?_
    refine lv_iload_n hx hb dX3_settle_31 rfl (lv_at hl 1 rfl) ?_
    obtain ⟨v32, e32, h⟩ := bd1_some h
    refine x_ald hc hG 1 rfl e32 dX3_settle_32 ?_
    refine lv_iload_n hx hb dX3_settle_33 rfl (lv_at hl 2 rfl) ?_
    refine lv_aload_n hx hb dX3_settle_34 rfl (lv_at hl 0 rfl) ?_
    refine x_get hc hG 0 rfl iX3 2 lX3_18 rfl dX3_settle_35 ?_
    refine lv_iload_n hx hb dX3_settle_38 rfl (lv_at hl 1 rfl) ?_
    obtain ⟨v39, e39, h⟩ := bd1_some h
    refine x_ald hc hG 3 rfl e39 dX3_settle_39 ?_
    refine lv_iload_n hx hb dX3_settle_40 rfl (lv_at hl 3 rfl) ?_
    obtain ⟨v41, e41, h⟩ := bd1_some h
    refine x_si0 (rest := [.int x1, .ref (ad 5)]) hc hG (cc_X3_coverBy v32 x2 v39 x3 v41 e41) lX3_82 ⟨rfl, rfl, by decide, by decide⟩ rfl hl.1 (Nat.le_of_ble_eq_true rfl) rfl dX3_settle_41 (fun H locs hG => ?_)
    obtain ⟨covers_44, e44, h⟩ := bd1_some h
    refine x_ast (ws' := (wX3 cI ad size need lifted licked morning tally kinds places_14 lengths downs_21 covers_44)) hc hG 5 rfl e44 rfl dX3_settle_44 (fun H locs hG => ?_)
    cases h
    exact hret _ _ _ _ hG dX3_settle_45
set_option maxRecDepth 100000 in
set_option maxHeartbeats 4000000 in
theorem cc_X3_add {l : Launch} {D : va_G} {cI : ClassId} {tL : Nat} (ad : Nat → Nat) (size : Int32) (need : Int32) (lifted : Int32) (licked : Int32) (morning : Int32) (tally : Int32) (kinds : Nat → Int32) (places : Nat → Int32) (lengths : Nat → Int32) (downs : Nat → Int32) (covers : Nat → Int32) (x1 : Int32) (x2 : Int32) (x3 : Int32) (x4 : Int32) (size' : Int32) (kinds' : Nat → Int32) (places' : Nat → Int32) (lengths' : Nat → Int32) (downs' : Nat → Int32) (covers' : Nat → Int32) (h : fX3_add size kinds places lengths downs covers x1 x2 x3 x4 = some (size', kinds', places', lengths', downs', covers')) : Cv l D cI tL yX3_add cX3_add 5 rmX3_add (wX3 cI ad size need lifted licked morning tally kinds places lengths downs covers) [.ref (ad 0), .int x1, .int x2, .int x3, .int x4] (wX3 cI ad size' need lifted licked morning tally kinds' places' lengths' downs' covers') := by
  refine Cv_of (own := RX3) (by decide) (Nat.le_of_ble_eq_true rfl) rfl ?_
  intro p e s m below meth c Q A AV hc hret ls hl hG
  obtain ⟨hx, hb, hml, hown, hts, hK, hA, hz⟩ := id hc
  have hl : lv_has ls 5 [(0, .ref (ad 0)), (1, .int x1), (2, .int x2), (3, .int x3), (4, .int x4)] := hl
  unfold fX3_add at h
  refine lv_aload_n hx hb dX3_add_0 rfl (lv_at hl 0 rfl) ?_
  refine x_get hc hG 0 rfl iX3 5 lX3_27 rfl dX3_add_1 ?_
  refine lv_if_lt (tgt := 59) hx hb dX3_add_4 (by decide) (fun c4 => ?_) (fun c4 => ?_)
  · rw [if_pos c4] at h
    cases h
    exact hret _ _ _ _ hG dX3_add_59
  · rw [if_neg c4] at h
    refine lv_aload_n hx hb dX3_add_7 rfl (lv_at hl 0 rfl) ?_
    refine x_get hc hG 0 rfl iX3 5 lX3_27 rfl dX3_add_8 ?_
    refine lv_bipush (v := 6) hx hb dX3_add_11 (by decide) ?_
    refine lv_icmp_ge (tgt := 59) hx hb dX3_add_13 (by decide) (fun c13 => ?_) (fun c13 => ?_)
    · rw [if_pos c13] at h
      cases h
      exact hret _ _ _ _ hG dX3_add_59
    · rw [if_neg c13] at h
      refine lv_aload_n hx hb dX3_add_16 rfl (lv_at hl 0 rfl) ?_
      refine x_get hc hG 0 rfl iX3 0 lX3_9 rfl dX3_add_17 ?_
      refine lv_aload_n hx hb dX3_add_20 rfl (lv_at hl 0 rfl) ?_
      refine x_get hc hG 0 rfl iX3 5 lX3_27 rfl dX3_add_21 ?_
      refine lv_iload_n hx hb dX3_add_24 rfl (lv_at hl 1 rfl) ?_
      obtain ⟨kinds_25, e25, h⟩ := bd1_some h
      refine x_ast (ws' := (wX3 cI ad size need lifted licked morning tally kinds_25 places lengths downs covers)) hc hG 1 rfl e25 rfl dX3_add_25 (fun H locs hG => ?_)
      refine lv_aload_n hx hb dX3_add_26 rfl (lv_at hl 0 rfl) ?_
      refine x_get hc hG 0 rfl iX3 2 lX3_18 rfl dX3_add_27 ?_
      refine lv_aload_n hx hb dX3_add_30 rfl (lv_at hl 0 rfl) ?_
      refine x_get hc hG 0 rfl iX3 5 lX3_27 rfl dX3_add_31 ?_
      refine lv_iload_n hx hb dX3_add_34 rfl (lv_at hl 3 rfl) ?_
      obtain ⟨lengths_35, e35, h⟩ := bd1_some h
      refine x_ast (ws' := (wX3 cI ad size need lifted licked morning tally kinds_25 places lengths_35 downs covers)) hc hG 3 rfl e35 rfl dX3_add_35 (fun H locs hG => ?_)
      refine lv_aload_n hx hb dX3_add_36 rfl (lv_at hl 0 rfl) ?_
      refine lv_dup hx hb dX3_add_37 rfl ?_
      refine x_get hc hG 0 rfl iX3 5 lX3_27 rfl dX3_add_38 ?_
      refine lv_iconst (v := 1) hx hb dX3_add_41 (by decide) ?_
      refine lv_iadd hx hb dX3_add_42 ?_
      refine x_put (ws' := (wX3 cI ad (size + 1) need lifted licked morning tally kinds_25 places lengths_35 downs covers)) hc hG 0 rfl iX3 tyX3 tyX3_ok nmX3 5 lX3_27 rfl rfl rfl (Nat.le_of_ble_eq_true rfl) rfl dX3_add_43 (fun H locs hG => ?_)
      refine lv_aload_n hx hb dX3_add_46 rfl (lv_at hl 0 rfl) ?_
      refine lv_aload_n hx hb dX3_add_47 rfl (lv_at hl 0 rfl) ?_
      refine x_get hc hG 0 rfl iX3 5 lX3_27 rfl dX3_add_48 ?_
      refine lv_iconst (v := 1) hx hb dX3_add_51 (by decide) ?_
      refine lv_isub hx hb dX3_add_52 ?_
      refine lv_iload_n hx hb dX3_add_53 rfl (lv_at hl 2 rfl) ?_
      refine lv_iload hx hb dX3_add_54 (lv_at hl 4 rfl) ?_
      obtain ⟨places_56, downs_56, covers_56, e56, h⟩ := bd3_some h
      refine x_vv (rest := []) (ws' := (wX3 cI ad (size + 1) need lifted licked morning tally kinds_25 places_56 lengths_35 downs_56 covers_56)) hc hG (cc_X3_settle ad (size + 1) need lifted licked morning tally kinds_25 places lengths_35 downs covers ((size + 1) - 1) x2 x4 places_56 downs_56 covers_56 e56) [0, 1, 2, 3, 4, 5] [] [0, 1, 2, 3, 4, 5] rfl rfl rfl 0 rfl rfl lX3_46 ⟨rfl, rfl, by decide, by decide⟩ rfl hl.1 (Nat.le_of_ble_eq_true rfl) rfl dX3_add_56 (fun H locs hG => ?_)
      cases h
      exact hret _ _ _ _ hG dX3_add_59
set_option maxRecDepth 100000 in
set_option maxHeartbeats 4000000 in
theorem cc_X3_take {l : Launch} {D : va_G} {cI : ClassId} {tL : Nat} (ad : Nat → Nat) (size : Int32) (need : Int32) (lifted : Int32) (licked : Int32) (morning : Int32) (tally : Int32) (kinds : Nat → Int32) (places : Nat → Int32) (lengths : Nat → Int32) (downs : Nat → Int32) (covers : Nat → Int32) (o_size : Int32) (o_need : Int32) (o_lifted : Int32) (o_licked : Int32) (o_morning : Int32) (o_tally : Int32) (o_kinds : Nat → Int32) (o_places : Nat → Int32) (o_lengths : Nat → Int32) (o_downs : Nat → Int32) (o_covers : Nat → Int32) (size' : Int32) (need' : Int32) (lifted' : Int32) (licked' : Int32) (morning' : Int32) (tally' : Int32) (kinds' : Nat → Int32) (places' : Nat → Int32) (lengths' : Nat → Int32) (downs' : Nat → Int32) (covers' : Nat → Int32) (h : fX3_take kinds places lengths downs covers o_size o_need o_lifted o_licked o_morning o_tally o_kinds o_places o_lengths o_downs o_covers = some (size', need', lifted', licked', morning', tally', kinds', places', lengths', downs', covers')) : Cv l D cI tL yX3_take cX3_take 3 rmX3_take (wX3t cI ad size need lifted licked morning tally kinds places lengths downs covers o_size o_need o_lifted o_licked o_morning o_tally o_kinds o_places o_lengths o_downs o_covers) [.ref (ad 0), .ref (ad 6)] (wX3t cI ad size' need' lifted' licked' morning' tally' kinds' places' lengths' downs' covers' o_size o_need o_lifted o_licked o_morning o_tally o_kinds o_places o_lengths o_downs o_covers) := by
  refine Cv_of (own := RX3) (by decide) (Nat.le_of_ble_eq_true rfl) rfl ?_
  intro p e s m below meth c Q A AV hc hret ls hl hG
  obtain ⟨hx, hb, hml, hown, hts, hK, hA, hz⟩ := id hc
  have hl : lv_has ls 3 [(0, .ref (ad 0)), (1, .ref (ad 6))] := hl
  have hL_2 : ∀ (size : Int32) (need : Int32) (lifted : Int32) (licked : Int32) (morning : Int32) (tally : Int32) (kinds_o : Nat → Int32) (places_o : Nat → Int32) (lengths_o : Nat → Int32) (downs_o : Nat → Int32) (covers_o : Nat → Int32), (∀ (ls : Array Slot) (H : Heap) (locs : List Loc), lv_has ls 3 [(0, .ref (ad 0)), (1, .ref (ad 6))] → St D A s (wX3t cI ad size need lifted licked morning tally kinds_o places_o lengths_o downs_o covers_o o_size o_need o_lifted o_licked o_morning o_tally o_kinds o_places o_lengths o_downs o_covers) H locs → W p l e rmX3_take s m AV below meth c H locs 0 0 Q (F0 m 74 ls [])) → ∀ (n : Nat) (kinds : Nat → Int32) (places : Nat → Int32) (lengths : Nat → Int32) (downs : Nat → Int32) (covers : Nat → Int32) (x2 : Int32), fX3_take_L2 o_kinds o_places o_lengths o_downs o_covers n kinds places lengths downs covers x2 = some (kinds_o, places_o, lengths_o, downs_o, covers_o) → ∀ (ls : Array Slot) (H : Heap) (locs : List Loc), lv_has ls 3 [(0, .ref (ad 0)), (1, .ref (ad 6)), (2, .int x2)] → St D A s (wX3t cI ad size need lifted licked morning tally kinds places lengths downs covers o_size o_need o_lifted o_licked o_morning o_tally o_kinds o_places o_lengths o_downs o_covers) H locs → W p l e rmX3_take s m AV below meth c H locs 0 0 Q (F0 m 2 ls []) := by
    intro size need lifted licked morning tally kinds_o places_o lengths_o downs_o covers_o KE n
    induction n with
    | zero =>
      intro kinds places lengths downs covers x2 h
      exact nomatch (show none = some _ from h)
    | succ n ih =>
      intro kinds places lengths downs covers x2 h ls H locs hl hG
      have h : fX3_take_B2 o_kinds o_places o_lengths o_downs o_covers (fX3_take_L2 o_kinds o_places o_lengths o_downs o_covers n) kinds places lengths downs covers x2 = some (kinds_o, places_o, lengths_o, downs_o, covers_o) := h
      unfold fX3_take_B2 at h
      refine lv_iload_n hx hb dX3_take_2 rfl (lv_at hl 2 rfl) ?_
      refine lv_bipush (v := 6) hx hb dX3_take_3 (by decide) ?_
      refine lv_icmp_ge (tgt := 74) hx hb dX3_take_5 (by decide) (fun c5 => ?_) (fun c5 => ?_)
      · rw [if_pos c5] at h
        cases h
        exact KE _ _ _ (lv_sub hl [0, 1] rfl) hG
      · rw [if_neg c5] at h
        refine lv_aload_n hx hb dX3_take_8 rfl (lv_at hl 0 rfl) ?_
        refine x_get hc hG 0 rfl iX3 0 lX3_9 rfl dX3_take_9 ?_
        refine lv_iload_n hx hb dX3_take_12 rfl (lv_at hl 2 rfl) ?_
        refine lv_aload_n hx hb dX3_take_13 rfl (lv_at hl 1 rfl) ?_
        refine x_get hc hG 6 rfl iX3 0 lX3_9 rfl dX3_take_14 ?_
        refine lv_iload_n hx hb dX3_take_17 rfl (lv_at hl 2 rfl) ?_
        obtain ⟨v18, e18, h⟩ := bd1_some h
        refine x_ald hc hG 7 rfl e18 dX3_take_18 ?_
        obtain ⟨kinds_19, e19, h⟩ := bd1_some h
        refine x_ast (ws' := (wX3t cI ad size need lifted licked morning tally kinds_19 places lengths downs covers o_size o_need o_lifted o_licked o_morning o_tally o_kinds o_places o_lengths o_downs o_covers)) hc hG 1 rfl e19 rfl dX3_take_19 (fun H locs hG => ?_)
        refine lv_aload_n hx hb dX3_take_20 rfl (lv_at hl 0 rfl) ?_
        refine x_get hc hG 0 rfl iX3 1 lX3_15 rfl dX3_take_21 ?_
        refine lv_iload_n hx hb dX3_take_24 rfl (lv_at hl 2 rfl) ?_
        refine lv_aload_n hx hb dX3_take_25 rfl (lv_at hl 1 rfl) ?_
        refine x_get hc hG 6 rfl iX3 1 lX3_15 rfl dX3_take_26 ?_
        refine lv_iload_n hx hb dX3_take_29 rfl (lv_at hl 2 rfl) ?_
        obtain ⟨v30, e30, h⟩ := bd1_some h
        refine x_ald hc hG 8 rfl e30 dX3_take_30 ?_
        obtain ⟨places_31, e31, h⟩ := bd1_some h
        refine x_ast (ws' := (wX3t cI ad size need lifted licked morning tally kinds_19 places_31 lengths downs covers o_size o_need o_lifted o_licked o_morning o_tally o_kinds o_places o_lengths o_downs o_covers)) hc hG 2 rfl e31 rfl dX3_take_31 (fun H locs hG => ?_)
        refine lv_aload_n hx hb dX3_take_32 rfl (lv_at hl 0 rfl) ?_
        refine x_get hc hG 0 rfl iX3 2 lX3_18 rfl dX3_take_33 ?_
        refine lv_iload_n hx hb dX3_take_36 rfl (lv_at hl 2 rfl) ?_
        refine lv_aload_n hx hb dX3_take_37 rfl (lv_at hl 1 rfl) ?_
        refine x_get hc hG 6 rfl iX3 2 lX3_18 rfl dX3_take_38 ?_
        refine lv_iload_n hx hb dX3_take_41 rfl (lv_at hl 2 rfl) ?_
        obtain ⟨v42, e42, h⟩ := bd1_some h
        refine x_ald hc hG 9 rfl e42 dX3_take_42 ?_
        obtain ⟨lengths_43, e43, h⟩ := bd1_some h
        refine x_ast (ws' := (wX3t cI ad size need lifted licked morning tally kinds_19 places_31 lengths_43 downs covers o_size o_need o_lifted o_licked o_morning o_tally o_kinds o_places o_lengths o_downs o_covers)) hc hG 3 rfl e43 rfl dX3_take_43 (fun H locs hG => ?_)
        refine lv_aload_n hx hb dX3_take_44 rfl (lv_at hl 0 rfl) ?_
        refine x_get hc hG 0 rfl iX3 3 lX3_21 rfl dX3_take_45 ?_
        refine lv_iload_n hx hb dX3_take_48 rfl (lv_at hl 2 rfl) ?_
        refine lv_aload_n hx hb dX3_take_49 rfl (lv_at hl 1 rfl) ?_
        refine x_get hc hG 6 rfl iX3 3 lX3_21 rfl dX3_take_50 ?_
        refine lv_iload_n hx hb dX3_take_53 rfl (lv_at hl 2 rfl) ?_
        obtain ⟨v54, e54, h⟩ := bd1_some h
        refine x_ald hc hG 10 rfl e54 dX3_take_54 ?_
        obtain ⟨downs_55, e55, h⟩ := bd1_some h
        refine x_ast (ws' := (wX3t cI ad size need lifted licked morning tally kinds_19 places_31 lengths_43 downs_55 covers o_size o_need o_lifted o_licked o_morning o_tally o_kinds o_places o_lengths o_downs o_covers)) hc hG 4 rfl e55 rfl dX3_take_55 (fun H locs hG => ?_)
        refine lv_aload_n hx hb dX3_take_56 rfl (lv_at hl 0 rfl) ?_
        refine x_get hc hG 0 rfl iX3 4 lX3_24 rfl dX3_take_57 ?_
        refine lv_iload_n hx hb dX3_take_60 rfl (lv_at hl 2 rfl) ?_
        refine lv_aload_n hx hb dX3_take_61 rfl (lv_at hl 1 rfl) ?_
        refine x_get hc hG 6 rfl iX3 4 lX3_24 rfl dX3_take_62 ?_
        refine lv_iload_n hx hb dX3_take_65 rfl (lv_at hl 2 rfl) ?_
        obtain ⟨v66, e66, h⟩ := bd1_some h
        refine x_ald hc hG 11 rfl e66 dX3_take_66 ?_
        obtain ⟨covers_67, e67, h⟩ := bd1_some h
        refine x_ast (ws' := (wX3t cI ad size need lifted licked morning tally kinds_19 places_31 lengths_43 downs_55 covers_67 o_size o_need o_lifted o_licked o_morning o_tally o_kinds o_places o_lengths o_downs o_covers)) hc hG 5 rfl e67 rfl dX3_take_67 (fun H locs hG => ?_)
        refine lv_iinc (v := (x2 + 1)) (lv' := [(2, .int (x2 + 1)), (0, .ref (ad 0)), (1, .ref (ad 6))]) hx hb dX3_take_68 hl (k := 2) rfl rfl (by decide) rfl (fun ls hl => ?_)
        refine lv_goto (tgt := 2) hx hb dX3_take_71 (by decide) ?_
        exact ih _ _ _ _ _ _ h _ _ _ (lv_sub hl [1, 2, 0] rfl) hG
  unfold fX3_take at h
  refine lv_iconst (v := 0) hx hb dX3_take_0 (by decide) ?_
  refine lv_istore_n (lv' := [(2, .int 0), (0, .ref (ad 0)), (1, .ref (ad 6))]) hx hb dX3_take_1 rfl hl (by decide) rfl (fun ls hl => ?_)
  obtain ⟨kinds_L2, places_L2, lengths_L2, downs_L2, covers_L2, e2, h⟩ := bd5_some h
  refine hL_2 _ _ _ _ _ _ _ _ _ _ _ (fun ls H locs hl hG => ?_) _ _ _ _ _ _ _ e2 _ _ _ (lv_sub hl [1, 2, 0] rfl) hG
  refine lv_aload_n hx hb dX3_take_74 rfl (lv_at hl 0 rfl) ?_
  refine lv_aload_n hx hb dX3_take_75 rfl (lv_at hl 1 rfl) ?_
  refine x_get hc hG 6 rfl iX3 5 lX3_27 rfl dX3_take_76 ?_
  refine x_put (ws' := (wX3t cI ad o_size need lifted licked morning tally kinds_L2 places_L2 lengths_L2 downs_L2 covers_L2 o_size o_need o_lifted o_licked o_morning o_tally o_kinds o_places o_lengths o_downs o_covers)) hc hG 0 rfl iX3 tyX3 tyX3_ok nmX3 5 lX3_27 rfl rfl rfl (Nat.le_of_ble_eq_true rfl) rfl dX3_take_79 (fun H locs hG => ?_)
  refine lv_aload_n hx hb dX3_take_82 rfl (lv_at hl 0 rfl) ?_
  refine lv_aload_n hx hb dX3_take_83 rfl (lv_at hl 1 rfl) ?_
  refine x_get hc hG 6 rfl iX3 6 lX3_31 rfl dX3_take_84 ?_
  refine x_put (ws' := (wX3t cI ad o_size o_need lifted licked morning tally kinds_L2 places_L2 lengths_L2 downs_L2 covers_L2 o_size o_need o_lifted o_licked o_morning o_tally o_kinds o_places o_lengths o_downs o_covers)) hc hG 0 rfl iX3 tyX3 tyX3_ok nmX3 6 lX3_31 rfl rfl rfl (Nat.le_of_ble_eq_true rfl) rfl dX3_take_87 (fun H locs hG => ?_)
  refine lv_aload_n hx hb dX3_take_90 rfl (lv_at hl 0 rfl) ?_
  refine lv_aload_n hx hb dX3_take_91 rfl (lv_at hl 1 rfl) ?_
  refine x_get hc hG 6 rfl iX3 7 lX3_34 rfl dX3_take_92 ?_
  refine x_put (ws' := (wX3t cI ad o_size o_need o_lifted licked morning tally kinds_L2 places_L2 lengths_L2 downs_L2 covers_L2 o_size o_need o_lifted o_licked o_morning o_tally o_kinds o_places o_lengths o_downs o_covers)) hc hG 0 rfl iX3 tyX3 tyX3_ok nmX3 7 lX3_34 rfl rfl rfl (Nat.le_of_ble_eq_true rfl) rfl dX3_take_95 (fun H locs hG => ?_)
  refine lv_aload_n hx hb dX3_take_98 rfl (lv_at hl 0 rfl) ?_
  refine lv_aload_n hx hb dX3_take_99 rfl (lv_at hl 1 rfl) ?_
  refine x_get hc hG 6 rfl iX3 8 lX3_37 rfl dX3_take_100 ?_
  refine x_put (ws' := (wX3t cI ad o_size o_need o_lifted o_licked morning tally kinds_L2 places_L2 lengths_L2 downs_L2 covers_L2 o_size o_need o_lifted o_licked o_morning o_tally o_kinds o_places o_lengths o_downs o_covers)) hc hG 0 rfl iX3 tyX3 tyX3_ok nmX3 8 lX3_37 rfl rfl rfl (Nat.le_of_ble_eq_true rfl) rfl dX3_take_103 (fun H locs hG => ?_)
  refine lv_aload_n hx hb dX3_take_106 rfl (lv_at hl 0 rfl) ?_
  refine lv_aload_n hx hb dX3_take_107 rfl (lv_at hl 1 rfl) ?_
  refine x_get hc hG 6 rfl iX3 9 lX3_40 rfl dX3_take_108 ?_
  refine x_put (ws' := (wX3t cI ad o_size o_need o_lifted o_licked o_morning tally kinds_L2 places_L2 lengths_L2 downs_L2 covers_L2 o_size o_need o_lifted o_licked o_morning o_tally o_kinds o_places o_lengths o_downs o_covers)) hc hG 0 rfl iX3 tyX3 tyX3_ok nmX3 9 lX3_40 rfl rfl rfl (Nat.le_of_ble_eq_true rfl) rfl dX3_take_111 (fun H locs hG => ?_)
  refine lv_aload_n hx hb dX3_take_114 rfl (lv_at hl 0 rfl) ?_
  refine lv_aload_n hx hb dX3_take_115 rfl (lv_at hl 1 rfl) ?_
  refine x_get hc hG 6 rfl iX3 10 lX3_43 rfl dX3_take_116 ?_
  refine x_put (ws' := (wX3t cI ad o_size o_need o_lifted o_licked o_morning o_tally kinds_L2 places_L2 lengths_L2 downs_L2 covers_L2 o_size o_need o_lifted o_licked o_morning o_tally o_kinds o_places o_lengths o_downs o_covers)) hc hG 0 rfl iX3 tyX3 tyX3_ok nmX3 10 lX3_43 rfl rfl rfl (Nat.le_of_ble_eq_true rfl) rfl dX3_take_119 (fun H locs hG => ?_)
  cases h
  exact hret _ _ _ _ hG dX3_take_122
set_option maxRecDepth 100000 in
set_option maxHeartbeats 4000000 in
theorem cc_X3_placeOf {l : Launch} {D : va_G} {cI : ClassId} {tL : Nat} (ad : Nat → Nat) (size : Int32) (need : Int32) (lifted : Int32) (licked : Int32) (morning : Int32) (tally : Int32) (kinds : Nat → Int32) (places : Nat → Int32) (lengths : Nat → Int32) (downs : Nat → Int32) (covers : Nat → Int32) (x1 : Int32) (r' : Int32) (h : fX3_placeOf size places x1 = some r') : Ci l D cI tL yX3_placeOf cX3_placeOf 2 .int rmX3_placeOf (wX3 cI ad size need lifted licked morning tally kinds places lengths downs covers) [.ref (ad 0), .int x1] r' (wX3 cI ad size need lifted licked morning tally kinds places lengths downs covers) := by
  refine Ci_of (own := RX3) (by decide) (Nat.le_of_ble_eq_true rfl) rfl ?_
  intro p e s m below meth c Q A AV hc hret ls hl hG
  obtain ⟨hx, hb, hml, hown, hts, hK, hA, hz⟩ := id hc
  have hl : lv_has ls 2 [(0, .ref (ad 0)), (1, .int x1)] := hl
  unfold fX3_placeOf at h
  refine lv_aload_n hx hb dX3_placeOf_0 rfl (lv_at hl 0 rfl) ?_
  refine lv_iload_n hx hb dX3_placeOf_1 rfl (lv_at hl 1 rfl) ?_
  obtain ⟨v2, e2, h⟩ := bd1_some h
  refine x_vi (rest := []) (ws' := (wX3 cI ad size need lifted licked morning tally kinds places lengths downs covers)) hc hG (cc_X3_has ad size need lifted licked morning tally kinds places lengths downs covers x1 v2 e2) [0, 1, 2, 3, 4, 5] [] [0, 1, 2, 3, 4, 5] rfl rfl rfl 0 rfl rfl lX3_50 ⟨rfl, rfl, by decide, by decide⟩ rfl hl.1 (Nat.le_of_ble_eq_true rfl) rfl dX3_placeOf_2 (fun H locs hG => ?_)
  refine lv_if_eq (tgt := 17) hx hb dX3_placeOf_5 (by decide) (fun c5 => ?_) (fun c5 => ?_)
  · rw [if_pos c5] at h
    refine lv_bipush (v := (-9)) hx hb dX3_placeOf_17 (by decide) ?_
    cases h
    exact hret _ _ _ _ hG dX3_placeOf_19 rfl
  · rw [if_neg c5] at h
    refine lv_aload_n hx hb dX3_placeOf_8 rfl (lv_at hl 0 rfl) ?_
    refine x_get hc hG 0 rfl iX3 1 lX3_15 rfl dX3_placeOf_9 ?_
    refine lv_iload_n hx hb dX3_placeOf_12 rfl (lv_at hl 1 rfl) ?_
    obtain ⟨v13, e13, h⟩ := bd1_some h
    refine x_ald hc hG 2 rfl e13 dX3_placeOf_13 ?_
    refine lv_goto (tgt := 19) hx hb dX3_placeOf_14 (by decide) ?_
    cases h
    exact hret _ _ _ _ hG dX3_placeOf_19 rfl
set_option maxRecDepth 100000 in
set_option maxHeartbeats 4000000 in
theorem cc_X3_downOf {l : Launch} {D : va_G} {cI : ClassId} {tL : Nat} (ad : Nat → Nat) (size : Int32) (need : Int32) (lifted : Int32) (licked : Int32) (morning : Int32) (tally : Int32) (kinds : Nat → Int32) (places : Nat → Int32) (lengths : Nat → Int32) (downs : Nat → Int32) (covers : Nat → Int32) (x1 : Int32) (r' : Int32) (h : fX3_downOf size downs x1 = some r') : Ci l D cI tL yX3_downOf cX3_downOf 2 .int rmX3_downOf (wX3 cI ad size need lifted licked morning tally kinds places lengths downs covers) [.ref (ad 0), .int x1] r' (wX3 cI ad size need lifted licked morning tally kinds places lengths downs covers) := by
  refine Ci_of (own := RX3) (by decide) (Nat.le_of_ble_eq_true rfl) rfl ?_
  intro p e s m below meth c Q A AV hc hret ls hl hG
  obtain ⟨hx, hb, hml, hown, hts, hK, hA, hz⟩ := id hc
  have hl : lv_has ls 2 [(0, .ref (ad 0)), (1, .int x1)] := hl
  unfold fX3_downOf at h
  refine lv_aload_n hx hb dX3_downOf_0 rfl (lv_at hl 0 rfl) ?_
  refine lv_iload_n hx hb dX3_downOf_1 rfl (lv_at hl 1 rfl) ?_
  obtain ⟨v2, e2, h⟩ := bd1_some h
  refine x_vi (rest := []) (ws' := (wX3 cI ad size need lifted licked morning tally kinds places lengths downs covers)) hc hG (cc_X3_has ad size need lifted licked morning tally kinds places lengths downs covers x1 v2 e2) [0, 1, 2, 3, 4, 5] [] [0, 1, 2, 3, 4, 5] rfl rfl rfl 0 rfl rfl lX3_50 ⟨rfl, rfl, by decide, by decide⟩ rfl hl.1 (Nat.le_of_ble_eq_true rfl) rfl dX3_downOf_2 (fun H locs hG => ?_)
  refine lv_if_eq (tgt := 17) hx hb dX3_downOf_5 (by decide) (fun c5 => ?_) (fun c5 => ?_)
  · rw [if_pos c5] at h
    refine lv_bipush (v := (-9)) hx hb dX3_downOf_17 (by decide) ?_
    cases h
    exact hret _ _ _ _ hG dX3_downOf_19 rfl
  · rw [if_neg c5] at h
    refine lv_aload_n hx hb dX3_downOf_8 rfl (lv_at hl 0 rfl) ?_
    refine x_get hc hG 0 rfl iX3 3 lX3_21 rfl dX3_downOf_9 ?_
    refine lv_iload_n hx hb dX3_downOf_12 rfl (lv_at hl 1 rfl) ?_
    obtain ⟨v13, e13, h⟩ := bd1_some h
    refine x_ald hc hG 4 rfl e13 dX3_downOf_13 ?_
    refine lv_goto (tgt := 19) hx hb dX3_downOf_14 (by decide) ?_
    cases h
    exact hret _ _ _ _ hG dX3_downOf_19 rfl
set_option maxRecDepth 100000 in
set_option maxHeartbeats 4000000 in
theorem cc_X3_isLifted {l : Launch} {D : va_G} {cI : ClassId} {tL : Nat} (ad : Nat → Nat) (size : Int32) (need : Int32) (lifted : Int32) (licked : Int32) (morning : Int32) (tally : Int32) (kinds : Nat → Int32) (places : Nat → Int32) (lengths : Nat → Int32) (downs : Nat → Int32) (covers : Nat → Int32) (x1 : Int32) (r' : Int32) (h : fX3_isLifted lifted x1 = some r') : Ci l D cI tL yX3_isLifted cX3_isLifted 2 .boolean rmX3_isLifted (wX3 cI ad size need lifted licked morning tally kinds places lengths downs covers) [.ref (ad 0), .int x1] r' (wX3 cI ad size need lifted licked morning tally kinds places lengths downs covers) := by
  refine Ci_of (own := RX3) (by decide) (Nat.le_of_ble_eq_true rfl) rfl ?_
  intro p e s m below meth c Q A AV hc hret ls hl hG
  obtain ⟨hx, hb, hml, hown, hts, hK, hA, hz⟩ := id hc
  have hl : lv_has ls 2 [(0, .ref (ad 0)), (1, .int x1)] := hl
  unfold fX3_isLifted at h
  refine lv_aload_n hx hb dX3_isLifted_0 rfl (lv_at hl 0 rfl) ?_
  refine x_get hc hG 0 rfl iX3 7 lX3_34 rfl dX3_isLifted_1 ?_
  refine lv_iload_n hx hb dX3_isLifted_4 rfl (lv_at hl 1 rfl) ?_
  refine lv_ishr hx hb dX3_isLifted_5 ?_
  refine lv_iconst (v := 1) hx hb dX3_isLifted_6 (by decide) ?_
  refine lv_iand hx hb dX3_isLifted_7 ?_
  refine lv_iconst (v := 1) hx hb dX3_isLifted_8 (by decide) ?_
  refine lv_icmp_ne (tgt := 16) hx hb dX3_isLifted_9 (by decide) (fun c9 => ?_) (fun c9 => ?_)
  · rw [if_neg c9] at h
    refine lv_iconst (v := 0) hx hb dX3_isLifted_16 (by decide) ?_
    cases h
    exact hret _ _ _ _ hG dX3_isLifted_17 rfl
  · rw [if_pos c9] at h
    refine lv_iconst (v := 1) hx hb dX3_isLifted_12 (by decide) ?_
    refine lv_goto (tgt := 17) hx hb dX3_isLifted_13 (by decide) ?_
    cases h
    exact hret _ _ _ _ hG dX3_isLifted_17 rfl
set_option maxRecDepth 100000 in
set_option maxHeartbeats 4000000 in
theorem cc_X3_allPeels {l : Launch} {D : va_G} {cI : ClassId} {tL : Nat} (ad : Nat → Nat) (size : Int32) (need : Int32) (lifted : Int32) (licked : Int32) (morning : Int32) (tally : Int32) (kinds : Nat → Int32) (places : Nat → Int32) (lengths : Nat → Int32) (downs : Nat → Int32) (covers : Nat → Int32) (r' : Int32) (h : fX3_allPeels size = some r') : Ci l D cI tL yX3_allPeels cX3_allPeels 1 .int rmX3_allPeels (wX3 cI ad size need lifted licked morning tally kinds places lengths downs covers) [.ref (ad 0)] r' (wX3 cI ad size need lifted licked morning tally kinds places lengths downs covers) := by
  refine Ci_of (own := RX3) (by decide) (Nat.le_of_ble_eq_true rfl) rfl ?_
  intro p e s m below meth c Q A AV hc hret ls hl hG
  obtain ⟨hx, hb, hml, hown, hts, hK, hA, hz⟩ := id hc
  have hl : lv_has ls 1 [(0, .ref (ad 0))] := hl
  unfold fX3_allPeels at h
  refine lv_iconst (v := 1) hx hb dX3_allPeels_0 (by decide) ?_
  refine lv_aload_n hx hb dX3_allPeels_1 rfl (lv_at hl 0 rfl) ?_
  refine x_get hc hG 0 rfl iX3 5 lX3_27 rfl dX3_allPeels_2 ?_
  refine lv_ishl hx hb dX3_allPeels_5 ?_
  refine lv_iconst (v := 1) hx hb dX3_allPeels_6 (by decide) ?_
  refine lv_isub hx hb dX3_allPeels_7 ?_
  cases h
  exact hret _ _ _ _ hG dX3_allPeels_8 rfl
set_option maxRecDepth 100000 in
set_option maxHeartbeats 4000000 in
theorem cc_X4_bit {l : Launch} {D : va_G} {cI : ClassId} {tL : Nat} (x0 : Int32) (x1 : Int32) (r' : Int32) (h : fX4_bit x0 x1 = some r') : Ci l D cI tL yX4_bit cX4_bit 2 .int rmX4_bit [] [.int x0, .int x1] r' [] := by
  refine Ci_of (own := RX4) (by decide) (Nat.le_of_ble_eq_true rfl) rfl ?_
  intro p e s m below meth c Q A AV hc hret ls hl hG
  obtain ⟨hx, hb, hml, hown, hts, hK, hA, hz⟩ := id hc
  have hl : lv_has ls 2 [(0, .int x0), (1, .int x1)] := hl
  unfold fX4_bit at h
  refine lv_iload_n hx hb dX4_bit_0 rfl (lv_at hl 0 rfl) ?_
  refine lv_iload_n hx hb dX4_bit_1 rfl (lv_at hl 1 rfl) ?_
  refine lv_ishr hx hb dX4_bit_2 ?_
  refine lv_iconst (v := 1) hx hb dX4_bit_3 (by decide) ?_
  refine lv_iand hx hb dX4_bit_4 ?_
  cases h
  exact hret _ _ _ _ hG dX4_bit_5 rfl
set_option maxRecDepth 100000 in
set_option maxHeartbeats 4000000 in
theorem cc_X3_weightBy {l : Launch} {D : va_G} {cI : ClassId} {tL : Nat} (x0 : Int32) (r' : Int32) (h : fX3_weightBy x0 = some r') : Ci l D cI tL yX3_weightBy cX3_weightBy 1 .int rmX3_weightBy [] [.int x0] r' [] := by
  refine Ci_of (own := RX3) (by decide) (Nat.le_of_ble_eq_true rfl) rfl ?_
  intro p e s m below meth c Q A AV hc hret ls hl hG
  obtain ⟨hx, hb, hml, hown, hts, hK, hA, hz⟩ := id hc
  have hl : lv_has ls 1 [(0, .int x0)] := hl
  unfold fX3_weightBy at h
  refine lv_iload_n hx hb dX3_weightBy_0 rfl (lv_at hl 0 rfl) ?_
  by_cases c1_2 : x0 = 2
  · rw [if_pos c1_2] at h
    refine x_swK (tgt := 32) hx hb dX3_weightBy_1 c1_2 (by decide) (by decide) rfl (by decide) ?_
    refine lv_iconst (v := 3) hx hb dX3_weightBy_32 (by decide) ?_
    cases h
    exact hret _ _ _ _ hG dX3_weightBy_33 rfl
  rw [if_neg c1_2] at h
  by_cases c1_3 : x0 = 3
  · rw [if_pos c1_3] at h
    refine x_swK (tgt := 36) hx hb dX3_weightBy_1 c1_3 (by decide) (by decide) rfl (by decide) ?_
    refine lv_iconst (v := 2) hx hb dX3_weightBy_36 (by decide) ?_
    cases h
    exact hret _ _ _ _ hG dX3_weightBy_37 rfl
  rw [if_neg c1_3] at h
  by_cases c1_5 : x0 = 5
  · rw [if_pos c1_5] at h
    refine x_swK (tgt := 34) hx hb dX3_weightBy_1 c1_5 (by decide) (by decide) rfl (by decide) ?_
    refine lv_iconst (v := 3) hx hb dX3_weightBy_34 (by decide) ?_
    cases h
    exact hret _ _ _ _ hG dX3_weightBy_35 rfl
  rw [if_neg c1_5] at h
  refine x_swD (tgt := 38) hx hb dX3_weightBy_1 [2, 3, 5] (by decide) (List.forall_mem_cons.mpr ⟨lv_neT c1_2 (by decide), (List.forall_mem_cons.mpr ⟨lv_neT c1_3 (by decide), (List.forall_mem_cons.mpr ⟨lv_neT c1_5 (by decide), (List.forall_mem_nil _)⟩)⟩)⟩) (by decide) ?_
  refine lv_iconst (v := 1) hx hb dX3_weightBy_38 (by decide) ?_
  cases h
  exact hret _ _ _ _ hG dX3_weightBy_39 rfl
set_option maxRecDepth 100000 in
set_option maxHeartbeats 4000000 in
theorem cc_X3_trait {l : Launch} {D : va_G} {cI : ClassId} {tL : Nat} (ad : Nat → Nat) (size : Int32) (need : Int32) (lifted : Int32) (licked : Int32) (morning : Int32) (tally : Int32) (kinds : Nat → Int32) (places : Nat → Int32) (lengths : Nat → Int32) (downs : Nat → Int32) (covers : Nat → Int32) (x1 : Int32) (x2 : Int32) (r' : Int32) (h : fX3_trait size lifted kinds places lengths downs covers x1 x2 = some r') : Ci l D cI tL yX3_trait cX3_trait 3 .int rmX3_trait (wX3 cI ad size need lifted licked morning tally kinds places lengths downs covers) [.ref (ad 0), .int x1, .int x2] r' (wX3 cI ad size need lifted licked morning tally kinds places lengths downs covers) := by
  refine Ci_of (own := RX3) (by decide) (Nat.le_of_ble_eq_true rfl) rfl ?_
  intro p e s m below meth c Q A AV hc hret ls hl hG
  obtain ⟨hx, hb, hml, hown, hts, hK, hA, hz⟩ := id hc
  have hl : lv_has ls 3 [(0, .ref (ad 0)), (1, .int x1), (2, .int x2)] := hl
  unfold fX3_trait at h
  refine lv_aload_n hx hb dX3_trait_0 rfl (lv_at hl 0 rfl) ?_
  refine lv_iload_n hx hb dX3_trait_1 rfl (lv_at hl 1 rfl) ?_
  obtain ⟨v2, e2, h⟩ := bd1_some h
  refine x_vi (rest := []) (ws' := (wX3 cI ad size need lifted licked morning tally kinds places lengths downs covers)) hc hG (cc_X3_has ad size need lifted licked morning tally kinds places lengths downs covers x1 v2 e2) [0, 1, 2, 3, 4, 5] [] [0, 1, 2, 3, 4, 5] rfl rfl rfl 0 rfl rfl lX3_50 ⟨rfl, rfl, by decide, by decide⟩ rfl hl.1 (Nat.le_of_ble_eq_true rfl) rfl dX3_trait_2 (fun H locs hG => ?_)
  refine lv_if_ne (tgt := 10) hx hb dX3_trait_5 (by decide) (fun c5 => ?_) (fun c5 => ?_)
  · rw [if_neg c5] at h
    refine lv_iload_n hx hb dX3_trait_10 rfl (lv_at hl 2 rfl) ?_
    by_cases c11_0 : x2 = 0
    · rw [if_pos c11_0] at h
      refine x_swK (tgt := 52) hx hb dX3_trait_11 c11_0 (by decide) (by decide) rfl (by decide) ?_
      refine lv_aload_n hx hb dX3_trait_52 rfl (lv_at hl 0 rfl) ?_
      refine x_get hc hG 0 rfl iX3 0 lX3_9 rfl dX3_trait_53 ?_
      refine lv_iload_n hx hb dX3_trait_56 rfl (lv_at hl 1 rfl) ?_
      obtain ⟨v57, e57, h⟩ := bd1_some h
      refine x_ald hc hG 1 rfl e57 dX3_trait_57 ?_
      cases h
      exact hret _ _ _ _ hG dX3_trait_58 rfl
    rw [if_neg c11_0] at h
    by_cases c11_1 : x2 = 1
    · rw [if_pos c11_1] at h
      refine x_swK (tgt := 59) hx hb dX3_trait_11 c11_1 (by decide) (by decide) rfl (by decide) ?_
      refine lv_aload_n hx hb dX3_trait_59 rfl (lv_at hl 0 rfl) ?_
      refine x_get hc hG 0 rfl iX3 1 lX3_15 rfl dX3_trait_60 ?_
      refine lv_iload_n hx hb dX3_trait_63 rfl (lv_at hl 1 rfl) ?_
      obtain ⟨v64, e64, h⟩ := bd1_some h
      refine x_ald hc hG 2 rfl e64 dX3_trait_64 ?_
      cases h
      exact hret _ _ _ _ hG dX3_trait_65 rfl
    rw [if_neg c11_1] at h
    by_cases c11_2 : x2 = 2
    · rw [if_pos c11_2] at h
      refine x_swK (tgt := 66) hx hb dX3_trait_11 c11_2 (by decide) (by decide) rfl (by decide) ?_
      refine lv_aload_n hx hb dX3_trait_66 rfl (lv_at hl 0 rfl) ?_
      refine x_get hc hG 0 rfl iX3 2 lX3_18 rfl dX3_trait_67 ?_
      refine lv_iload_n hx hb dX3_trait_70 rfl (lv_at hl 1 rfl) ?_
      obtain ⟨v71, e71, h⟩ := bd1_some h
      refine x_ald hc hG 3 rfl e71 dX3_trait_71 ?_
      cases h
      exact hret _ _ _ _ hG dX3_trait_72 rfl
    rw [if_neg c11_2] at h
    by_cases c11_3 : x2 = 3
    · rw [if_pos c11_3] at h
      refine x_swK (tgt := 73) hx hb dX3_trait_11 c11_3 (by decide) (by decide) rfl (by decide) ?_
      refine lv_aload_n hx hb dX3_trait_73 rfl (lv_at hl 0 rfl) ?_
      refine x_get hc hG 0 rfl iX3 3 lX3_21 rfl dX3_trait_74 ?_
      refine lv_iload_n hx hb dX3_trait_77 rfl (lv_at hl 1 rfl) ?_
      obtain ⟨v78, e78, h⟩ := bd1_some h
      refine x_ald hc hG 4 rfl e78 dX3_trait_78 ?_
      cases h
      exact hret _ _ _ _ hG dX3_trait_79 rfl
    rw [if_neg c11_3] at h
    by_cases c11_4 : x2 = 4
    · rw [if_pos c11_4] at h
      refine x_swK (tgt := 80) hx hb dX3_trait_11 c11_4 (by decide) (by decide) rfl (by decide) ?_
      refine lv_aload_n hx hb dX3_trait_80 rfl (lv_at hl 0 rfl) ?_
      refine x_get hc hG 0 rfl iX3 7 lX3_34 rfl dX3_trait_81 ?_
      refine lv_iload_n hx hb dX3_trait_84 rfl (lv_at hl 1 rfl) ?_
      obtain ⟨v85, e85, h⟩ := bd1_some h
      refine x_siN0 (rest := []) hc hG (cc_X4_bit lifted x1 v85 e85) lX3_54 ⟨rfl, rfl, by decide, by decide⟩ rfl hl.1 (Nat.le_of_ble_eq_true rfl) rfl dX3_trait_85 (fun H locs hG => ?_)
      cases h
      exact hret _ _ _ _ hG dX3_trait_88 rfl
    rw [if_neg c11_4] at h
    by_cases c11_5 : x2 = 5
    · rw [if_pos c11_5] at h
      refine x_swK (tgt := 89) hx hb dX3_trait_11 c11_5 (by decide) (by decide) rfl (by decide) ?_
      refine lv_aload_n hx hb dX3_trait_89 rfl (lv_at hl 0 rfl) ?_
      refine x_get hc hG 0 rfl iX3 4 lX3_24 rfl dX3_trait_90 ?_
      refine lv_iload_n hx hb dX3_trait_93 rfl (lv_at hl 1 rfl) ?_
      obtain ⟨v94, e94, h⟩ := bd1_some h
      refine x_ald hc hG 5 rfl e94 dX3_trait_94 ?_
      cases h
      exact hret _ _ _ _ hG dX3_trait_95 rfl
    rw [if_neg c11_5] at h
    by_cases c11_6 : x2 = 6
    · rw [if_pos c11_6] at h
      refine x_swK (tgt := 96) hx hb dX3_trait_11 c11_6 (by decide) (by decide) rfl (by decide) ?_
      refine lv_aload_n hx hb dX3_trait_96 rfl (lv_at hl 0 rfl) ?_
      refine x_get hc hG 0 rfl iX3 0 lX3_9 rfl dX3_trait_97 ?_
      refine lv_iload_n hx hb dX3_trait_100 rfl (lv_at hl 1 rfl) ?_
      obtain ⟨v101, e101, h⟩ := bd1_some h
      refine x_ald hc hG 1 rfl e101 dX3_trait_101 ?_
      obtain ⟨v102, e102, h⟩ := bd1_some h
      refine x_si0 (rest := []) hc hG (cc_X3_weightBy v101 v102 e102) lX3_58 ⟨rfl, rfl, by decide, by decide⟩ rfl hl.1 (Nat.le_of_ble_eq_true rfl) rfl dX3_trait_102 (fun H locs hG => ?_)
      cases h
      exact hret _ _ _ _ hG dX3_trait_105 rfl
    rw [if_neg c11_6] at h
    refine x_swD (tgt := 106) hx hb dX3_trait_11 [0, 1, 2, 3, 4, 5, 6] (by decide) (List.forall_mem_cons.mpr ⟨lv_neT c11_0 (by decide), (List.forall_mem_cons.mpr ⟨lv_neT c11_1 (by decide), (List.forall_mem_cons.mpr ⟨lv_neT c11_2 (by decide), (List.forall_mem_cons.mpr ⟨lv_neT c11_3 (by decide), (List.forall_mem_cons.mpr ⟨lv_neT c11_4 (by decide), (List.forall_mem_cons.mpr ⟨lv_neT c11_5 (by decide), (List.forall_mem_cons.mpr ⟨lv_neT c11_6 (by decide), (List.forall_mem_nil _)⟩)⟩)⟩)⟩)⟩)⟩)⟩) (by decide) ?_
    refine lv_iconst (v := (-1)) hx hb dX3_trait_106 (by decide) ?_
    cases h
    exact hret _ _ _ _ hG dX3_trait_107 rfl
  · rw [if_pos c5] at h
    refine lv_iconst (v := (-1)) hx hb dX3_trait_8 (by decide) ?_
    cases h
    exact hret _ _ _ _ hG dX3_trait_9 rfl
set_option maxRecDepth 100000 in
set_option maxHeartbeats 4000000 in
theorem cc_X3_isOf {l : Launch} {D : va_G} {cI : ClassId} {tL : Nat} (ad : Nat → Nat) (size : Int32) (need : Int32) (lifted : Int32) (licked : Int32) (morning : Int32) (tally : Int32) (kinds : Nat → Int32) (places : Nat → Int32) (lengths : Nat → Int32) (downs : Nat → Int32) (covers : Nat → Int32) (x1 : Int32) (x2 : Int32) (r' : Int32) (h : fX3_isOf size kinds x1 x2 = some r') : Ci l D cI tL yX3_isOf cX3_isOf 4 .boolean rmX3_isOf (wX3 cI ad size need lifted licked morning tally kinds places lengths downs covers) [.ref (ad 0), .int x1, .int x2] r' (wX3 cI ad size need lifted licked morning tally kinds places lengths downs covers) := by
  refine Ci_of (own := RX3) (by decide) (Nat.le_of_ble_eq_true rfl) rfl ?_
  intro p e s m below meth c Q A AV hc hret ls hl hG
  obtain ⟨hx, hb, hml, hown, hts, hK, hA, hz⟩ := id hc
  have hl : lv_has ls 4 [(0, .ref (ad 0)), (1, .int x1), (2, .int x2)] := hl
  have hj_45 : fX3_isOf_j45 = some r' → ∀ (ls : Array Slot) (H : Heap) (locs : List Loc), lv_has ls 4 [(0, .ref (ad 0))] → St D A s (wX3 cI ad size need lifted licked morning tally kinds places lengths downs covers) H locs → W p l e rmX3_isOf s m AV below meth c H locs 0 0 Q (F0 m 45 ls []) := by
    intro  h ls H locs hl hG
    unfold fX3_isOf_j45 at h
    refine lv_iconst (v := 1) hx hb dX3_isOf_45 (by decide) ?_
    refine lv_goto (tgt := 50) hx hb dX3_isOf_46 (by decide) ?_
    cases h
    exact hret _ _ _ _ hG dX3_isOf_50 rfl
  have hj_35 : ∀ (x2 : Int32) (x3 : Int32) , fX3_isOf_j35 x2 x3 = some r' → ∀ (ls : Array Slot) (H : Heap) (locs : List Loc), lv_has ls 4 [(0, .ref (ad 0)), (2, .int x2), (3, .int x3)] → St D A s (wX3 cI ad size need lifted licked morning tally kinds places lengths downs covers) H locs → W p l e rmX3_isOf s m AV below meth c H locs 0 0 Q (F0 m 35 ls []) := by
    intro x2 x3 h ls H locs hl hG
    unfold fX3_isOf_j35 at h
    refine lv_iload_n hx hb dX3_isOf_35 rfl (lv_at hl 2 rfl) ?_
    refine lv_iconst (v := 5) hx hb dX3_isOf_36 (by decide) ?_
    refine lv_icmp_ne (tgt := 49) hx hb dX3_isOf_37 (by decide) (fun c37 => ?_) (fun c37 => ?_)
    · rw [if_neg c37] at h
      refine lv_iconst (v := 0) hx hb dX3_isOf_49 (by decide) ?_
      cases h
      exact hret _ _ _ _ hG dX3_isOf_50 rfl
    · rw [if_pos c37] at h
      refine lv_iload_n hx hb dX3_isOf_40 rfl (lv_at hl 1 rfl) ?_
      refine lv_iconst (v := 2) hx hb dX3_isOf_41 (by decide) ?_
      refine lv_icmp_ne (tgt := 49) hx hb dX3_isOf_42 (by decide) (fun c42 => ?_) (fun c42 => ?_)
      · rw [if_neg c42] at h
        refine lv_iconst (v := 0) hx hb dX3_isOf_49 (by decide) ?_
        cases h
        exact hret _ _ _ _ hG dX3_isOf_50 rfl
      · rw [if_pos c42] at h
        exact hj_45  h _ _ _ (lv_sub hl [0] rfl) hG
  have hj_19 : ∀ (x2 : Int32) (k0 : Int32) , fX3_isOf_j19 x2 k0 = some r' → ∀ (ls : Array Slot) (H : Heap) (locs : List Loc), lv_has ls 4 [(0, .ref (ad 0)), (2, .int x2)] → St D A s (wX3 cI ad size need lifted licked morning tally kinds places lengths downs covers) H locs → W p l e rmX3_isOf s m AV below meth c H locs 0 0 Q (F0 m 19 ls [.int k0]) := by
    intro x2 k0 h ls H locs hl hG
    unfold fX3_isOf_j19 at h
    refine lv_istore_n (lv' := [(3, .int k0), (0, .ref (ad 0)), (2, .int x2)]) hx hb dX3_isOf_19 rfl hl (by decide) rfl (fun ls hl => ?_)
    refine lv_iload_n hx hb dX3_isOf_20 rfl (lv_at hl 0 rfl) ?_
    refine lv_iload_n hx hb dX3_isOf_21 rfl (lv_at hl 2 rfl) ?_
    refine lv_icmp_eq (tgt := 45) hx hb dX3_isOf_22 (by decide) (fun c22 => ?_) (fun c22 => ?_)
    · rw [if_pos c22] at h
      exact hj_45  h _ _ _ (lv_sub hl [1] rfl) hG
    · rw [if_neg c22] at h
      refine lv_iload_n hx hb dX3_isOf_25 rfl (lv_at hl 0 rfl) ?_
      refine lv_iconst (v := 4) hx hb dX3_isOf_26 (by decide) ?_
      refine lv_icmp_ne (tgt := 35) hx hb dX3_isOf_27 (by decide) (fun c27 => ?_) (fun c27 => ?_)
      · rw [if_neg c27] at h
        exact hj_35 _ _ h _ _ _ (lv_sub hl [1, 2, 0] rfl) hG
      · rw [if_pos c27] at h
        refine lv_iload_n hx hb dX3_isOf_30 rfl (lv_at hl 2 rfl) ?_
        refine lv_iconst (v := 1) hx hb dX3_isOf_31 (by decide) ?_
        refine lv_icmp_eq (tgt := 45) hx hb dX3_isOf_32 (by decide) (fun c32 => ?_) (fun c32 => ?_)
        · rw [if_pos c32] at h
          exact hj_45  h _ _ _ (lv_sub hl [1] rfl) hG
        · rw [if_neg c32] at h
          exact hj_35 _ _ h _ _ _ (lv_sub hl [1, 2, 0] rfl) hG
  unfold fX3_isOf at h
  refine lv_aload_n hx hb dX3_isOf_0 rfl (lv_at hl 0 rfl) ?_
  refine lv_iload_n hx hb dX3_isOf_1 rfl (lv_at hl 1 rfl) ?_
  obtain ⟨v2, e2, h⟩ := bd1_some h
  refine x_vi (rest := []) (ws' := (wX3 cI ad size need lifted licked morning tally kinds places lengths downs covers)) hc hG (cc_X3_has ad size need lifted licked morning tally kinds places lengths downs covers x1 v2 e2) [0, 1, 2, 3, 4, 5] [] [0, 1, 2, 3, 4, 5] rfl rfl rfl 0 rfl rfl lX3_50 ⟨rfl, rfl, by decide, by decide⟩ rfl hl.1 (Nat.le_of_ble_eq_true rfl) rfl dX3_isOf_2 (fun H locs hG => ?_)
  refine lv_if_eq (tgt := 17) hx hb dX3_isOf_5 (by decide) (fun c5 => ?_) (fun c5 => ?_)
  · rw [if_pos c5] at h
    refine lv_bipush (v := (-9)) hx hb dX3_isOf_17 (by decide) ?_
    exact hj_19 _ _ h _ _ _ (lv_sub hl [0, 2] rfl) hG
  · rw [if_neg c5] at h
    refine lv_aload_n hx hb dX3_isOf_8 rfl (lv_at hl 0 rfl) ?_
    refine x_get hc hG 0 rfl iX3 0 lX3_9 rfl dX3_isOf_9 ?_
    refine lv_iload_n hx hb dX3_isOf_12 rfl (lv_at hl 1 rfl) ?_
    obtain ⟨v13, e13, h⟩ := bd1_some h
    refine x_ald hc hG 1 rfl e13 dX3_isOf_13 ?_
    refine lv_goto (tgt := 19) hx hb dX3_isOf_14 (by decide) ?_
    exact hj_19 _ _ h _ _ _ (lv_sub hl [0, 2] rfl) hG
set_option maxRecDepth 100000 in
set_option maxHeartbeats 4000000 in
theorem cc_X3_amountOf {l : Launch} {D : va_G} {cI : ClassId} {tL : Nat} (ad : Nat → Nat) (size : Int32) (need : Int32) (lifted : Int32) (licked : Int32) (morning : Int32) (tally : Int32) (kinds : Nat → Int32) (places : Nat → Int32) (lengths : Nat → Int32) (downs : Nat → Int32) (covers : Nat → Int32) (x1 : Int32) (r' : Int32) (h : fX3_amountOf size kinds x1 = some r') : Ci l D cI tL yX3_amountOf cX3_amountOf 4 .int rmX3_amountOf (wX3 cI ad size need lifted licked morning tally kinds places lengths downs covers) [.ref (ad 0), .int x1] r' (wX3 cI ad size need lifted licked morning tally kinds places lengths downs covers) := by
  refine Ci_of (own := RX3) (by decide) (Nat.le_of_ble_eq_true rfl) rfl ?_
  intro p e s m below meth c Q A AV hc hret ls hl hG
  obtain ⟨hx, hb, hml, hown, hts, hK, hA, hz⟩ := id hc
  have hl : lv_has ls 4 [(0, .ref (ad 0)), (1, .int x1)] := hl
  have hL_4 : ∀ (x1 : Int32) (x2_o : Int32), (∀ (ls : Array Slot) (H : Heap) (locs : List Loc), lv_has ls 4 [(0, .ref (ad 0)), (2, .int x2_o)] → St D A s (wX3 cI ad size need lifted licked morning tally kinds places lengths downs covers) H locs → W p l e rmX3_amountOf s m AV below meth c H locs 0 0 Q (F0 m 30 ls [])) → ∀ (n : Nat) (x2 : Int32) (x3 : Int32), fX3_amountOf_L4 size kinds x1 n x2 x3 = some x2_o → ∀ (ls : Array Slot) (H : Heap) (locs : List Loc), lv_has ls 4 [(0, .ref (ad 0)), (1, .int x1), (2, .int x2), (3, .int x3)] → St D A s (wX3 cI ad size need lifted licked morning tally kinds places lengths downs covers) H locs → W p l e rmX3_amountOf s m AV below meth c H locs 0 0 Q (F0 m 4 ls []) := by
    intro x1 x2_o KE n
    induction n with
    | zero =>
      intro x2 x3 h
      exact nomatch (show none = some _ from h)
    | succ n ih =>
      intro x2 x3 h ls H locs hl hG
      have h : fX3_amountOf_B4 size kinds x1 (fX3_amountOf_L4 size kinds x1 n) x2 x3 = some x2_o := h
      have hj_24 : ∀ (x2 : Int32) (x3 : Int32) , fX3_amountOf_j24 (fX3_amountOf_L4 size kinds x1 n) size kinds x1 x2 x3 = some x2_o → ∀ (ls : Array Slot) (H : Heap) (locs : List Loc), lv_has ls 4 [(0, .ref (ad 0)), (1, .int x1), (2, .int x2), (3, .int x3)] → St D A s (wX3 cI ad size need lifted licked morning tally kinds places lengths downs covers) H locs → W p l e rmX3_amountOf s m AV below meth c H locs 0 0 Q (F0 m 24 ls []) := by
        intro x2 x3 h ls H locs hl hG
        unfold fX3_amountOf_j24 at h
        refine lv_iinc (v := (x3 + 1)) (lv' := [(3, .int (x3 + 1)), (0, .ref (ad 0)), (1, .int x1), (2, .int x2)]) hx hb dX3_amountOf_24 hl (k := 3) rfl rfl (by decide) rfl (fun ls hl => ?_)
        refine lv_goto (tgt := 4) hx hb dX3_amountOf_27 (by decide) ?_
        exact ih _ _ h _ _ _ (lv_sub hl [1, 2, 3, 0] rfl) hG
      unfold fX3_amountOf_B4 at h
      refine lv_iload_n hx hb dX3_amountOf_4 rfl (lv_at hl 3 rfl) ?_
      refine lv_aload_n hx hb dX3_amountOf_5 rfl (lv_at hl 0 rfl) ?_
      refine x_get hc hG 0 rfl iX3 5 lX3_27 rfl dX3_amountOf_6 ?_
      refine lv_icmp_ge (tgt := 30) hx hb dX3_amountOf_9 (by decide) (fun c9 => ?_) (fun c9 => ?_)
      · rw [if_pos c9] at h
        cases h
        exact KE _ _ _ (lv_sub hl [0, 2] rfl) hG
      · rw [if_neg c9] at h
        refine lv_aload_n hx hb dX3_amountOf_12 rfl (lv_at hl 0 rfl) ?_
        refine lv_iload_n hx hb dX3_amountOf_13 rfl (lv_at hl 3 rfl) ?_
        refine lv_iload_n hx hb dX3_amountOf_14 rfl (lv_at hl 1 rfl) ?_
        obtain ⟨v15, e15, h⟩ := bd1_some h
        refine x_vi (rest := []) (ws' := (wX3 cI ad size need lifted licked morning tally kinds places lengths downs covers)) hc hG (cc_X3_isOf ad size need lifted licked morning tally kinds places lengths downs covers x3 x1 v15 e15) [0, 1, 2, 3, 4, 5] [] [0, 1, 2, 3, 4, 5] rfl rfl rfl 0 rfl rfl lX3_62 ⟨rfl, rfl, by decide, by decide⟩ rfl hl.1 (Nat.le_of_ble_eq_true rfl) rfl dX3_amountOf_15 (fun H locs hG => ?_)
        refine lv_if_eq (tgt := 24) hx hb dX3_amountOf_18 (by decide) (fun c18 => ?_) (fun c18 => ?_)
        · rw [if_pos c18] at h
          exact hj_24 _ _ h _ _ _ (lv_sub hl [0, 1, 2, 3] rfl) hG
        · rw [if_neg c18] at h
          refine lv_iinc (v := (x2 + 1)) (lv' := [(2, .int (x2 + 1)), (0, .ref (ad 0)), (1, .int x1), (3, .int x3)]) hx hb dX3_amountOf_21 hl (k := 2) rfl rfl (by decide) rfl (fun ls hl => ?_)
          exact hj_24 _ _ h _ _ _ (lv_sub hl [1, 2, 0, 3] rfl) hG
  unfold fX3_amountOf at h
  refine lv_iconst (v := 0) hx hb dX3_amountOf_0 (by decide) ?_
  refine lv_istore_n (lv' := [(2, .int 0), (0, .ref (ad 0)), (1, .int x1)]) hx hb dX3_amountOf_1 rfl hl (by decide) rfl (fun ls hl => ?_)
  refine lv_iconst (v := 0) hx hb dX3_amountOf_2 (by decide) ?_
  refine lv_istore_n (lv' := [(3, .int 0), (2, .int 0), (0, .ref (ad 0)), (1, .int x1)]) hx hb dX3_amountOf_3 rfl hl (by decide) rfl (fun ls hl => ?_)
  obtain ⟨x2_L4, e4, h⟩ := bd1_some h
  refine hL_4 _ _ (fun ls H locs hl hG => ?_) _ _ _ e4 _ _ _ (lv_sub hl [2, 3, 1, 0] rfl) hG
  refine lv_iload_n hx hb dX3_amountOf_30 rfl (lv_at hl 1 rfl) ?_
  cases h
  exact hret _ _ _ _ hG dX3_amountOf_31 rfl
set_option maxRecDepth 100000 in
set_option maxHeartbeats 4000000 in
theorem cc_X3_amountOfWeight {l : Launch} {D : va_G} {cI : ClassId} {tL : Nat} (ad : Nat → Nat) (size : Int32) (need : Int32) (lifted : Int32) (licked : Int32) (morning : Int32) (tally : Int32) (kinds : Nat → Int32) (places : Nat → Int32) (lengths : Nat → Int32) (downs : Nat → Int32) (covers : Nat → Int32) (x1 : Int32) (r' : Int32) (h : fX3_amountOfWeight size kinds x1 = some r') : Ci l D cI tL yX3_amountOfWeight cX3_amountOfWeight 4 .int rmX3_amountOfWeight (wX3 cI ad size need lifted licked morning tally kinds places lengths downs covers) [.ref (ad 0), .int x1] r' (wX3 cI ad size need lifted licked morning tally kinds places lengths downs covers) := by
  refine Ci_of (own := RX3) (by decide) (Nat.le_of_ble_eq_true rfl) rfl ?_
  intro p e s m below meth c Q A AV hc hret ls hl hG
  obtain ⟨hx, hb, hml, hown, hts, hK, hA, hz⟩ := id hc
  have hl : lv_has ls 4 [(0, .ref (ad 0)), (1, .int x1)] := hl
  have hL_4 : ∀ (x1 : Int32) (x2_o : Int32), (∀ (ls : Array Slot) (H : Heap) (locs : List Loc), lv_has ls 4 [(0, .ref (ad 0)), (2, .int x2_o)] → St D A s (wX3 cI ad size need lifted licked morning tally kinds places lengths downs covers) H locs → W p l e rmX3_amountOfWeight s m AV below meth c H locs 0 0 Q (F0 m 40 ls [])) → ∀ (n : Nat) (x2 : Int32) (x3 : Int32), fX3_amountOfWeight_L4 size kinds x1 n x2 x3 = some x2_o → ∀ (ls : Array Slot) (H : Heap) (locs : List Loc), lv_has ls 4 [(0, .ref (ad 0)), (1, .int x1), (2, .int x2), (3, .int x3)] → St D A s (wX3 cI ad size need lifted licked morning tally kinds places lengths downs covers) H locs → W p l e rmX3_amountOfWeight s m AV below meth c H locs 0 0 Q (F0 m 4 ls []) := by
    intro x1 x2_o KE n
    induction n with
    | zero =>
      intro x2 x3 h
      exact nomatch (show none = some _ from h)
    | succ n ih =>
      intro x2 x3 h ls H locs hl hG
      have h : fX3_amountOfWeight_B4 size kinds x1 (fX3_amountOfWeight_L4 size kinds x1 n) x2 x3 = some x2_o := h
      have hj_34 : ∀ (x2 : Int32) (x3 : Int32) , fX3_amountOfWeight_j34 (fX3_amountOfWeight_L4 size kinds x1 n) size kinds x1 x2 x3 = some x2_o → ∀ (ls : Array Slot) (H : Heap) (locs : List Loc), lv_has ls 4 [(0, .ref (ad 0)), (1, .int x1), (2, .int x2), (3, .int x3)] → St D A s (wX3 cI ad size need lifted licked morning tally kinds places lengths downs covers) H locs → W p l e rmX3_amountOfWeight s m AV below meth c H locs 0 0 Q (F0 m 34 ls []) := by
        intro x2 x3 h ls H locs hl hG
        unfold fX3_amountOfWeight_j34 at h
        refine lv_iinc (v := (x3 + 1)) (lv' := [(3, .int (x3 + 1)), (0, .ref (ad 0)), (1, .int x1), (2, .int x2)]) hx hb dX3_amountOfWeight_34 hl (k := 3) rfl rfl (by decide) rfl (fun ls hl => ?_)
        refine lv_goto (tgt := 4) hx hb dX3_amountOfWeight_37 (by decide) ?_
        exact ih _ _ h _ _ _ (lv_sub hl [1, 2, 3, 0] rfl) hG
      unfold fX3_amountOfWeight_B4 at h
      refine lv_iload_n hx hb dX3_amountOfWeight_4 rfl (lv_at hl 3 rfl) ?_
      refine lv_aload_n hx hb dX3_amountOfWeight_5 rfl (lv_at hl 0 rfl) ?_
      refine x_get hc hG 0 rfl iX3 5 lX3_27 rfl dX3_amountOfWeight_6 ?_
      refine lv_icmp_ge (tgt := 40) hx hb dX3_amountOfWeight_9 (by decide) (fun c9 => ?_) (fun c9 => ?_)
      · rw [if_pos c9] at h
        cases h
        exact KE _ _ _ (lv_sub hl [0, 2] rfl) hG
      · rw [if_neg c9] at h
        refine lv_iload_n hx hb dX3_amountOfWeight_12 rfl (lv_at hl 3 rfl) ?_
        refine lv_bipush (v := 6) hx hb dX3_amountOfWeight_13 (by decide) ?_
        refine lv_icmp_ge (tgt := 40) hx hb dX3_amountOfWeight_15 (by decide) (fun c15 => ?_) (fun c15 => ?_)
        · rw [if_pos c15] at h
          cases h
          exact KE _ _ _ (lv_sub hl [0, 2] rfl) hG
        · rw [if_neg c15] at h
          refine lv_aload_n hx hb dX3_amountOfWeight_18 rfl (lv_at hl 0 rfl) ?_
          refine x_get hc hG 0 rfl iX3 0 lX3_9 rfl dX3_amountOfWeight_19 ?_
          refine lv_iload_n hx hb dX3_amountOfWeight_22 rfl (lv_at hl 3 rfl) ?_
          obtain ⟨v23, e23, h⟩ := bd1_some h
          refine x_ald hc hG 1 rfl e23 dX3_amountOfWeight_23 ?_
          obtain ⟨v24, e24, h⟩ := bd1_some h
          refine x_si0 (rest := []) hc hG (cc_X3_weightBy v23 v24 e24) lX3_58 ⟨rfl, rfl, by decide, by decide⟩ rfl hl.1 (Nat.le_of_ble_eq_true rfl) rfl dX3_amountOfWeight_24 (fun H locs hG => ?_)
          refine lv_iload_n hx hb dX3_amountOfWeight_27 rfl (lv_at hl 1 rfl) ?_
          refine lv_icmp_ne (tgt := 34) hx hb dX3_amountOfWeight_28 (by decide) (fun c28 => ?_) (fun c28 => ?_)
          · rw [if_neg c28] at h
            exact hj_34 _ _ h _ _ _ (lv_sub hl [0, 1, 2, 3] rfl) hG
          · rw [if_pos c28] at h
            refine lv_iinc (v := (x2 + 1)) (lv' := [(2, .int (x2 + 1)), (0, .ref (ad 0)), (1, .int x1), (3, .int x3)]) hx hb dX3_amountOfWeight_31 hl (k := 2) rfl rfl (by decide) rfl (fun ls hl => ?_)
            exact hj_34 _ _ h _ _ _ (lv_sub hl [1, 2, 0, 3] rfl) hG
  unfold fX3_amountOfWeight at h
  refine lv_iconst (v := 0) hx hb dX3_amountOfWeight_0 (by decide) ?_
  refine lv_istore_n (lv' := [(2, .int 0), (0, .ref (ad 0)), (1, .int x1)]) hx hb dX3_amountOfWeight_1 rfl hl (by decide) rfl (fun ls hl => ?_)
  refine lv_iconst (v := 0) hx hb dX3_amountOfWeight_2 (by decide) ?_
  refine lv_istore_n (lv' := [(3, .int 0), (2, .int 0), (0, .ref (ad 0)), (1, .int x1)]) hx hb dX3_amountOfWeight_3 rfl hl (by decide) rfl (fun ls hl => ?_)
  obtain ⟨x2_L4, e4, h⟩ := bd1_some h
  refine hL_4 _ _ (fun ls H locs hl hG => ?_) _ _ _ e4 _ _ _ (lv_sub hl [2, 3, 1, 0] rfl) hG
  refine lv_iload_n hx hb dX3_amountOfWeight_40 rfl (lv_at hl 1 rfl) ?_
  cases h
  exact hret _ _ _ _ hG dX3_amountOfWeight_41 rfl
set_option maxRecDepth 100000 in
set_option maxHeartbeats 4000000 in
theorem cc_X3_coverAs {l : Launch} {D : va_G} {cI : ClassId} {tL : Nat} (ad : Nat → Nat) (size : Int32) (need : Int32) (lifted : Int32) (licked : Int32) (morning : Int32) (tally : Int32) (kinds : Nat → Int32) (places : Nat → Int32) (lengths : Nat → Int32) (downs : Nat → Int32) (covers : Nat → Int32) (x1 : Int32) (x2 : Int32) (r' : Int32) (h : fX3_coverAs size places lengths downs x1 x2 = some r') : Ci l D cI tL yX3_coverAs cX3_coverAs 3 .int rmX3_coverAs (wX3 cI ad size need lifted licked morning tally kinds places lengths downs covers) [.ref (ad 0), .int x1, .int x2] r' (wX3 cI ad size need lifted licked morning tally kinds places lengths downs covers) := by
  refine Ci_of (own := RX3) (by decide) (Nat.le_of_ble_eq_true rfl) rfl ?_
  intro p e s m below meth c Q A AV hc hret ls hl hG
  obtain ⟨hx, hb, hml, hown, hts, hK, hA, hz⟩ := id hc
  have hl : lv_has ls 3 [(0, .ref (ad 0)), (1, .int x1), (2, .int x2)] := hl
  unfold fX3_coverAs at h
  refine lv_aload_n hx hb dX3_coverAs_0 rfl (lv_at hl 0 rfl) ?_
  refine lv_iload_n hx hb dX3_coverAs_1 rfl (lv_at hl 2 rfl) ?_
  obtain ⟨v2, e2, h⟩ := bd1_some h
  refine x_vi (rest := []) (ws' := (wX3 cI ad size need lifted licked morning tally kinds places lengths downs covers)) hc hG (cc_X3_has ad size need lifted licked morning tally kinds places lengths downs covers x2 v2 e2) [0, 1, 2, 3, 4, 5] [] [0, 1, 2, 3, 4, 5] rfl rfl rfl 0 rfl rfl lX3_50 ⟨rfl, rfl, by decide, by decide⟩ rfl hl.1 (Nat.le_of_ble_eq_true rfl) rfl dX3_coverAs_2 (fun H locs hG => ?_)
  refine lv_if_eq (tgt := 33) hx hb dX3_coverAs_5 (by decide) (fun c5 => ?_) (fun c5 => ?_)
  · rw [if_pos c5] at h
    refine lv_iconst (v := 0) hx hb dX3_coverAs_33 (by decide) ?_
    cases h
    exact hret _ _ _ _ hG dX3_coverAs_34 rfl
  · rw [if_neg c5] at h
    refine lv_iload_n hx hb dX3_coverAs_8 rfl (lv_at hl 1 rfl) ?_
    refine lv_aload_n hx hb dX3_coverAs_9 rfl (lv_at hl 0 rfl) ?_
    refine x_get hc hG 0 rfl iX3 1 lX3_15 rfl dX3_coverAs_10 ?_
    refine lv_iload_n hx hb dX3_coverAs_13 rfl (lv_at hl 2 rfl) ?_
    obtain ⟨v14, e14, h⟩ := bd1_some h
    refine x_ald hc hG 2 rfl e14 dX3_coverAs_14 ?_
    refine lv_aload_n hx hb dX3_coverAs_15 rfl (lv_at hl 0 rfl) ?_
    refine x_get hc hG 0 rfl iX3 2 lX3_18 rfl dX3_coverAs_16 ?_
    refine lv_iload_n hx hb dX3_coverAs_19 rfl (lv_at hl 2 rfl) ?_
    obtain ⟨v20, e20, h⟩ := bd1_some h
    refine x_ald hc hG 3 rfl e20 dX3_coverAs_20 ?_
    refine lv_aload_n hx hb dX3_coverAs_21 rfl (lv_at hl 0 rfl) ?_
    refine x_get hc hG 0 rfl iX3 3 lX3_21 rfl dX3_coverAs_22 ?_
    refine lv_iload_n hx hb dX3_coverAs_25 rfl (lv_at hl 2 rfl) ?_
    obtain ⟨v26, e26, h⟩ := bd1_some h
    refine x_ald hc hG 4 rfl e26 dX3_coverAs_26 ?_
    obtain ⟨v27, e27, h⟩ := bd1_some h
    refine x_si0 (rest := []) hc hG (cc_X3_coverBy x1 v14 v20 v26 v27 e27) lX3_82 ⟨rfl, rfl, by decide, by decide⟩ rfl hl.1 (Nat.le_of_ble_eq_true rfl) rfl dX3_coverAs_27 (fun H locs hG => ?_)
    refine lv_goto (tgt := 34) hx hb dX3_coverAs_30 (by decide) ?_
    cases h
    exact hret _ _ _ _ hG dX3_coverAs_34 rfl
set_option maxRecDepth 100000 in
set_option maxHeartbeats 4000000 in
theorem cc_X3_tells {l : Launch} {D : va_G} {cI : ClassId} {tL : Nat} (ad : Nat → Nat) (size : Int32) (need : Int32) (lifted : Int32) (licked : Int32) (morning : Int32) (tally : Int32) (kinds : Nat → Int32) (places : Nat → Int32) (lengths : Nat → Int32) (downs : Nat → Int32) (covers : Nat → Int32) (x1 : Int32) (x2 : Int32) (r' : Int32) (h : fX3_tells size kinds places lengths downs covers x1 x2 = some r') : Ci l D cI tL yX3_tells cX3_tells 4 .int rmX3_tells (wX3 cI ad size need lifted licked morning tally kinds places lengths downs covers) [.ref (ad 0), .int x1, .int x2] r' (wX3 cI ad size need lifted licked morning tally kinds places lengths downs covers) := by
  refine Ci_of (own := RX3) (by decide) (Nat.le_of_ble_eq_true rfl) rfl ?_
  intro p e s m below meth c Q A AV hc hret ls hl hG
  obtain ⟨hx, hb, hml, hown, hts, hK, hA, hz⟩ := id hc
  have hl : lv_has ls 4 [(0, .ref (ad 0)), (1, .int x1), (2, .int x2)] := hl
  unfold fX3_tells at h
  refine lv_aload_n hx hb dX3_tells_0 rfl (lv_at hl 0 rfl) ?_
  refine lv_iload_n hx hb dX3_tells_1 rfl (lv_at hl 1 rfl) ?_
  obtain ⟨v2, e2, h⟩ := bd1_some h
  refine x_vi (rest := []) (ws' := (wX3 cI ad size need lifted licked morning tally kinds places lengths downs covers)) hc hG (cc_X3_has ad size need lifted licked morning tally kinds places lengths downs covers x1 v2 e2) [0, 1, 2, 3, 4, 5] [] [0, 1, 2, 3, 4, 5] rfl rfl rfl 0 rfl rfl lX3_50 ⟨rfl, rfl, by decide, by decide⟩ rfl hl.1 (Nat.le_of_ble_eq_true rfl) rfl dX3_tells_2 (fun H locs hG => ?_)
  refine lv_if_ne (tgt := 10) hx hb dX3_tells_5 (by decide) (fun c5 => ?_) (fun c5 => ?_)
  · rw [if_neg c5] at h
    refine lv_aload_n hx hb dX3_tells_10 rfl (lv_at hl 0 rfl) ?_
    refine x_get hc hG 0 rfl iX3 4 lX3_24 rfl dX3_tells_11 ?_
    refine lv_iload_n hx hb dX3_tells_14 rfl (lv_at hl 1 rfl) ?_
    obtain ⟨v15, e15, h⟩ := bd1_some h
    refine x_ald hc hG 5 rfl e15 dX3_tells_15 ?_
    refine lv_istore_n (lv' := [(3, .int v15), (0, .ref (ad 0)), (1, .int x1), (2, .int x2)]) hx hb dX3_tells_16 rfl hl (by decide) rfl (fun ls hl => ?_)
    refine lv_iload_n hx hb dX3_tells_17 rfl (lv_at hl 3 rfl) ?_
    by_cases c18_1 : x2 = 1
    · rw [if_pos c18_1] at h
      refine x_swK (tgt := 52) hx hb dX3_tells_18 c18_1 (by decide) (by decide) rfl (by decide) ?_
      refine lv_aload_n hx hb dX3_tells_52 rfl (lv_at hl 1 rfl) ?_
      refine lv_iconst (v := 0) hx hb dX3_tells_53 (by decide) ?_
      refine lv_iload_n hx hb dX3_tells_54 rfl (lv_at hl 2 rfl) ?_
      obtain ⟨v55, e55, h⟩ := bd1_some h
      refine x_vi (rest := []) (ws' := (wX3 cI ad size need lifted licked morning tally kinds places lengths downs covers)) hc hG (cc_X3_coverAs ad size need lifted licked morning tally kinds places lengths downs covers 0 x1 v55 e55) [0, 1, 2, 3, 4, 5] [] [0, 1, 2, 3, 4, 5] rfl rfl rfl 0 rfl rfl lX3_66 ⟨rfl, rfl, by decide, by decide⟩ rfl hl.1 (Nat.le_of_ble_eq_true rfl) rfl dX3_tells_55 (fun H locs hG => ?_)
      refine lv_iload_n hx hb dX3_tells_58 rfl (lv_at hl 0 rfl) ?_
      refine lv_iconst (v := (-1)) hx hb dX3_tells_59 (by decide) ?_
      refine lv_ixor hx hb dX3_tells_60 ?_
      refine lv_iand hx hb dX3_tells_61 ?_
      refine x_si0 (rest := []) hc hG (cJ_bitc (v55 &&& (v15 ^^^ (-1)))) lX3_69 ⟨rfl, rfl, by decide, by decide⟩ rfl hl.1 (Nat.le_of_ble_eq_true rfl) rfl dX3_tells_62 (fun H locs hG => ?_)
      cases h
      exact hret _ _ _ _ hG dX3_tells_65 rfl
    rw [if_neg c18_1] at h
    by_cases c18_2 : x2 = 2
    · rw [if_pos c18_2] at h
      refine x_swK (tgt := 66) hx hb dX3_tells_18 c18_2 (by decide) (by decide) rfl (by decide) ?_
      refine lv_aload_n hx hb dX3_tells_66 rfl (lv_at hl 1 rfl) ?_
      refine lv_aload_n hx hb dX3_tells_67 rfl (lv_at hl 1 rfl) ?_
      refine x_get hc hG 0 rfl iX3 0 lX3_9 rfl dX3_tells_68 ?_
      refine lv_iload_n hx hb dX3_tells_71 rfl (lv_at hl 2 rfl) ?_
      obtain ⟨v72, e72, h⟩ := bd1_some h
      refine x_ald hc hG 1 rfl e72 dX3_tells_72 ?_
      obtain ⟨v73, e73, h⟩ := bd1_some h
      refine x_si0 (rest := [.ref (ad 0)]) hc hG (cc_X3_weightBy v72 v73 e73) lX3_58 ⟨rfl, rfl, by decide, by decide⟩ rfl hl.1 (Nat.le_of_ble_eq_true rfl) rfl dX3_tells_73 (fun H locs hG => ?_)
      obtain ⟨v76, e76, h⟩ := bd1_some h
      refine x_vi (rest := []) (ws' := (wX3 cI ad size need lifted licked morning tally kinds places lengths downs covers)) hc hG (cc_X3_amountOfWeight ad size need lifted licked morning tally kinds places lengths downs covers v73 v76 e76) [0, 1, 2, 3, 4, 5] [] [0, 1, 2, 3, 4, 5] rfl rfl rfl 0 rfl rfl lX3_74 ⟨rfl, rfl, by decide, by decide⟩ rfl hl.1 (Nat.le_of_ble_eq_true rfl) rfl dX3_tells_76 (fun H locs hG => ?_)
      cases h
      exact hret _ _ _ _ hG dX3_tells_79 rfl
    rw [if_neg c18_2] at h
    by_cases c18_3 : x2 = 3
    · rw [if_pos c18_3] at h
      refine x_swK (tgt := 80) hx hb dX3_tells_18 c18_3 (by decide) (by decide) rfl (by decide) ?_
      refine lv_iload_n hx hb dX3_tells_80 rfl (lv_at hl 0 rfl) ?_
      refine lv_aload_n hx hb dX3_tells_81 rfl (lv_at hl 1 rfl) ?_
      refine lv_iconst (v := 0) hx hb dX3_tells_82 (by decide) ?_
      refine lv_iload_n hx hb dX3_tells_83 rfl (lv_at hl 2 rfl) ?_
      obtain ⟨v84, e84, h⟩ := bd1_some h
      refine x_vi (rest := [.int v15]) (ws' := (wX3 cI ad size need lifted licked morning tally kinds places lengths downs covers)) hc hG (cc_X3_coverAs ad size need lifted licked morning tally kinds places lengths downs covers 0 x1 v84 e84) [0, 1, 2, 3, 4, 5] [] [0, 1, 2, 3, 4, 5] rfl rfl rfl 0 rfl rfl lX3_66 ⟨rfl, rfl, by decide, by decide⟩ rfl hl.1 (Nat.le_of_ble_eq_true rfl) rfl dX3_tells_84 (fun H locs hG => ?_)
      refine lv_iconst (v := (-1)) hx hb dX3_tells_87 (by decide) ?_
      refine lv_ixor hx hb dX3_tells_88 ?_
      refine lv_iand hx hb dX3_tells_89 ?_
      refine x_si0 (rest := []) hc hG (cJ_bitc (v15 &&& (v84 ^^^ (-1)))) lX3_69 ⟨rfl, rfl, by decide, by decide⟩ rfl hl.1 (Nat.le_of_ble_eq_true rfl) rfl dX3_tells_90 (fun H locs hG => ?_)
      cases h
      exact hret _ _ _ _ hG dX3_tells_93 rfl
    rw [if_neg c18_3] at h
    by_cases c18_4 : x2 = 4
    · rw [if_pos c18_4] at h
      refine x_swK (tgt := 94) hx hb dX3_tells_18 c18_4 (by decide) (by decide) rfl (by decide) ?_
      refine lv_iload_n hx hb dX3_tells_94 rfl (lv_at hl 0 rfl) ?_
      refine lv_aload_n hx hb dX3_tells_95 rfl (lv_at hl 1 rfl) ?_
      refine lv_iconst (v := 1) hx hb dX3_tells_96 (by decide) ?_
      refine lv_iload_n hx hb dX3_tells_97 rfl (lv_at hl 2 rfl) ?_
      obtain ⟨v98, e98, h⟩ := bd1_some h
      refine x_vi (rest := [.int v15]) (ws' := (wX3 cI ad size need lifted licked morning tally kinds places lengths downs covers)) hc hG (cc_X3_coverAs ad size need lifted licked morning tally kinds places lengths downs covers 1 x1 v98 e98) [0, 1, 2, 3, 4, 5] [] [0, 1, 2, 3, 4, 5] rfl rfl rfl 0 rfl rfl lX3_66 ⟨rfl, rfl, by decide, by decide⟩ rfl hl.1 (Nat.le_of_ble_eq_true rfl) rfl dX3_tells_98 (fun H locs hG => ?_)
      refine lv_iconst (v := (-1)) hx hb dX3_tells_101 (by decide) ?_
      refine lv_ixor hx hb dX3_tells_102 ?_
      refine lv_iand hx hb dX3_tells_103 ?_
      refine x_si0 (rest := []) hc hG (cJ_bitc (v15 &&& (v98 ^^^ (-1)))) lX3_69 ⟨rfl, rfl, by decide, by decide⟩ rfl hl.1 (Nat.le_of_ble_eq_true rfl) rfl dX3_tells_104 (fun H locs hG => ?_)
      cases h
      exact hret _ _ _ _ hG dX3_tells_107 rfl
    rw [if_neg c18_4] at h
    by_cases c18_5 : x2 = 5
    · rw [if_pos c18_5] at h
      refine x_swK (tgt := 108) hx hb dX3_tells_18 c18_5 (by decide) (by decide) rfl (by decide) ?_
      refine lv_aload_n hx hb dX3_tells_108 rfl (lv_at hl 1 rfl) ?_
      refine lv_iconst (v := 2) hx hb dX3_tells_109 (by decide) ?_
      refine lv_iload_n hx hb dX3_tells_110 rfl (lv_at hl 2 rfl) ?_
      obtain ⟨v111, e111, h⟩ := bd1_some h
      refine x_vi (rest := []) (ws' := (wX3 cI ad size need lifted licked morning tally kinds places lengths downs covers)) hc hG (cc_X3_coverAs ad size need lifted licked morning tally kinds places lengths downs covers 2 x1 v111 e111) [0, 1, 2, 3, 4, 5] [] [0, 1, 2, 3, 4, 5] rfl rfl rfl 0 rfl rfl lX3_66 ⟨rfl, rfl, by decide, by decide⟩ rfl hl.1 (Nat.le_of_ble_eq_true rfl) rfl dX3_tells_111 (fun H locs hG => ?_)
      refine x_si0 (rest := []) hc hG (cJ_bitc v111) lX3_69 ⟨rfl, rfl, by decide, by decide⟩ rfl hl.1 (Nat.le_of_ble_eq_true rfl) rfl dX3_tells_114 (fun H locs hG => ?_)
      refine lv_iload_n hx hb dX3_tells_117 rfl (lv_at hl 0 rfl) ?_
      refine x_si0 (rest := [.int (bitc v111)]) hc hG (cJ_bitc v15) lX3_69 ⟨rfl, rfl, by decide, by decide⟩ rfl hl.1 (Nat.le_of_ble_eq_true rfl) rfl dX3_tells_118 (fun H locs hG => ?_)
      refine lv_isub hx hb dX3_tells_121 ?_
      cases h
      exact hret _ _ _ _ hG dX3_tells_122 rfl
    rw [if_neg c18_5] at h
    refine x_swD (tgt := 123) hx hb dX3_tells_18 [1, 2, 3, 4, 5] (by decide) (List.forall_mem_cons.mpr ⟨lv_neT c18_1 (by decide), (List.forall_mem_cons.mpr ⟨lv_neT c18_2 (by decide), (List.forall_mem_cons.mpr ⟨lv_neT c18_3 (by decide), (List.forall_mem_cons.mpr ⟨lv_neT c18_4 (by decide), (List.forall_mem_cons.mpr ⟨lv_neT c18_5 (by decide), (List.forall_mem_nil _)⟩)⟩)⟩)⟩)⟩) (by decide) ?_
    refine lv_iconst (v := (-1)) hx hb dX3_tells_123 (by decide) ?_
    cases h
    exact hret _ _ _ _ hG dX3_tells_124 rfl
  · rw [if_pos c5] at h
    refine lv_iconst (v := (-1)) hx hb dX3_tells_8 (by decide) ?_
    cases h
    exact hret _ _ _ _ hG dX3_tells_9 rfl
set_option maxRecDepth 100000 in
set_option maxHeartbeats 4000000 in
theorem cc_X3_coverAt {l : Launch} {D : va_G} {cI : ClassId} {tL : Nat} (ad : Nat → Nat) (size : Int32) (need : Int32) (lifted : Int32) (licked : Int32) (morning : Int32) (tally : Int32) (kinds : Nat → Int32) (places : Nat → Int32) (lengths : Nat → Int32) (downs : Nat → Int32) (covers : Nat → Int32) (x1 : Int32) (x2 : Int32) (x3 : Int32) (r' : Int32) (h : fX3_coverAt size kinds lengths x1 x2 x3 = some r') : Ci l D cI tL yX3_coverAt cX3_coverAt 4 .int rmX3_coverAt (wX3 cI ad size need lifted licked morning tally kinds places lengths downs covers) [.ref (ad 0), .int x1, .int x2, .int x3] r' (wX3 cI ad size need lifted licked morning tally kinds places lengths downs covers) := by
  refine Ci_of (own := RX3) (by decide) (Nat.le_of_ble_eq_true rfl) rfl ?_
  intro p e s m below meth c Q A AV hc hret ls hl hG
  obtain ⟨hx, hb, hml, hown, hts, hK, hA, hz⟩ := id hc
  have hl : lv_has ls 4 [(0, .ref (ad 0)), (1, .int x1), (2, .int x2), (3, .int x3)] := hl
  unfold fX3_coverAt at h
  refine lv_aload_n hx hb dX3_coverAt_0 rfl (lv_at hl 0 rfl) ?_
  refine lv_iload_n hx hb dX3_coverAt_1 rfl (lv_at hl 1 rfl) ?_
  obtain ⟨v2, e2, h⟩ := bd1_some h
  refine x_vi (rest := []) (ws' := (wX3 cI ad size need lifted licked morning tally kinds places lengths downs covers)) hc hG (cc_X3_has ad size need lifted licked morning tally kinds places lengths downs covers x1 v2 e2) [0, 1, 2, 3, 4, 5] [] [0, 1, 2, 3, 4, 5] rfl rfl rfl 0 rfl rfl lX3_50 ⟨rfl, rfl, by decide, by decide⟩ rfl hl.1 (Nat.le_of_ble_eq_true rfl) rfl dX3_coverAt_2 (fun H locs hG => ?_)
  refine lv_if_eq (tgt := 28) hx hb dX3_coverAt_5 (by decide) (fun c5 => ?_) (fun c5 => ?_)
  · rw [if_pos c5] at h
    refine lv_iconst (v := 0) hx hb dX3_coverAt_28 (by decide) ?_
    cases h
    exact hret _ _ _ _ hG dX3_coverAt_29 rfl
  · rw [if_neg c5] at h
    refine lv_aload_n hx hb dX3_coverAt_8 rfl (lv_at hl 0 rfl) ?_
    refine x_get hc hG 0 rfl iX3 0 lX3_9 rfl dX3_coverAt_9 ?_
    refine lv_iload_n hx hb dX3_coverAt_12 rfl (lv_at hl 1 rfl) ?_
    obtain ⟨v13, e13, h⟩ := bd1_some h
    refine x_ald hc hG 1 rfl e13 dX3_coverAt_13 ?_
    refine lv_iload_n hx hb dX3_coverAt_14 rfl (lv_at hl 2 rfl) ?_
    refine lv_aload_n hx hb dX3_coverAt_15 rfl (lv_at hl 0 rfl) ?_
    refine x_get hc hG 0 rfl iX3 2 lX3_18 rfl dX3_coverAt_16 ?_
    refine lv_iload_n hx hb dX3_coverAt_19 rfl (lv_at hl 1 rfl) ?_
    obtain ⟨v20, e20, h⟩ := bd1_some h
    refine x_ald hc hG 3 rfl e20 dX3_coverAt_20 ?_
    refine lv_iload_n hx hb dX3_coverAt_21 rfl (lv_at hl 3 rfl) ?_
    obtain ⟨v22, e22, h⟩ := bd1_some h
    refine x_si0 (rest := []) hc hG (cc_X3_coverBy v13 x2 v20 x3 v22 e22) lX3_82 ⟨rfl, rfl, by decide, by decide⟩ rfl hl.1 (Nat.le_of_ble_eq_true rfl) rfl dX3_coverAt_22 (fun H locs hG => ?_)
    refine lv_goto (tgt := 29) hx hb dX3_coverAt_25 (by decide) ?_
    cases h
    exact hret _ _ _ _ hG dX3_coverAt_29 rfl
set_option maxRecDepth 100000 in
set_option maxHeartbeats 4000000 in
theorem cc_X3_coverOfAllBut {l : Launch} {D : va_G} {cI : ClassId} {tL : Nat} (ad : Nat → Nat) (size : Int32) (need : Int32) (lifted : Int32) (licked : Int32) (morning : Int32) (tally : Int32) (kinds : Nat → Int32) (places : Nat → Int32) (lengths : Nat → Int32) (downs : Nat → Int32) (covers : Nat → Int32) (x1 : Int32) (x2 : Int32) (r' : Int32) (h : fX3_coverOfAllBut size lifted covers x1 x2 = some r') : Ci l D cI tL yX3_coverOfAllBut cX3_coverOfAllBut 5 .int rmX3_coverOfAllBut (wX3 cI ad size need lifted licked morning tally kinds places lengths downs covers) [.ref (ad 0), .int x1, .int x2] r' (wX3 cI ad size need lifted licked morning tally kinds places lengths downs covers) := by
  refine Ci_of (own := RX3) (by decide) (Nat.le_of_ble_eq_true rfl) rfl ?_
  intro p e s m below meth c Q A AV hc hret ls hl hG
  obtain ⟨hx, hb, hml, hown, hts, hK, hA, hz⟩ := id hc
  have hl : lv_has ls 5 [(0, .ref (ad 0)), (1, .int x1), (2, .int x2)] := hl
  have hL_5 : ∀ (x1 : Int32) (x2 : Int32) (x3_o : Int32), (∀ (ls : Array Slot) (H : Heap) (locs : List Loc), lv_has ls 5 [(0, .ref (ad 0)), (3, .int x3_o)] → St D A s (wX3 cI ad size need lifted licked morning tally kinds places lengths downs covers) H locs → W p l e rmX3_coverOfAllBut s m AV below meth c H locs 0 0 Q (F0 m 58 ls [])) → ∀ (n : Nat) (x3 : Int32) (x4 : Int32), fX3_coverOfAllBut_L5 size lifted covers x1 x2 n x3 x4 = some x3_o → ∀ (ls : Array Slot) (H : Heap) (locs : List Loc), lv_has ls 5 [(0, .ref (ad 0)), (1, .int x1), (2, .int x2), (3, .int x3), (4, .int x4)] → St D A s (wX3 cI ad size need lifted licked morning tally kinds places lengths downs covers) H locs → W p l e rmX3_coverOfAllBut s m AV below meth c H locs 0 0 Q (F0 m 5 ls []) := by
    intro x1 x2 x3_o KE n
    induction n with
    | zero =>
      intro x3 x4 h
      exact nomatch (show none = some _ from h)
    | succ n ih =>
      intro x3 x4 h ls H locs hl hG
      have h : fX3_coverOfAllBut_B5 size lifted covers x1 x2 (fX3_coverOfAllBut_L5 size lifted covers x1 x2 n) x3 x4 = some x3_o := h
      have hj_52 : ∀ (x3 : Int32) (x4 : Int32) , fX3_coverOfAllBut_j52 (fX3_coverOfAllBut_L5 size lifted covers x1 x2 n) size lifted covers x1 x2 x3 x4 = some x3_o → ∀ (ls : Array Slot) (H : Heap) (locs : List Loc), lv_has ls 5 [(0, .ref (ad 0)), (1, .int x1), (2, .int x2), (3, .int x3), (4, .int x4)] → St D A s (wX3 cI ad size need lifted licked morning tally kinds places lengths downs covers) H locs → W p l e rmX3_coverOfAllBut s m AV below meth c H locs 0 0 Q (F0 m 52 ls []) := by
        intro x3 x4 h ls H locs hl hG
        unfold fX3_coverOfAllBut_j52 at h
        refine lv_iinc (v := (x4 + 1)) (lv' := [(4, .int (x4 + 1)), (0, .ref (ad 0)), (1, .int x1), (2, .int x2), (3, .int x3)]) hx hb dX3_coverOfAllBut_52 hl (k := 4) rfl rfl (by decide) rfl (fun ls hl => ?_)
        refine lv_goto (tgt := 5) hx hb dX3_coverOfAllBut_55 (by decide) ?_
        exact ih _ _ h _ _ _ (lv_sub hl [1, 2, 3, 4, 0] rfl) hG
      unfold fX3_coverOfAllBut_B5 at h
      refine lv_iload hx hb dX3_coverOfAllBut_5 (lv_at hl 4 rfl) ?_
      refine lv_aload_n hx hb dX3_coverOfAllBut_7 rfl (lv_at hl 0 rfl) ?_
      refine x_get hc hG 0 rfl iX3 5 lX3_27 rfl dX3_coverOfAllBut_8 ?_
      refine lv_icmp_ge (tgt := 58) hx hb dX3_coverOfAllBut_11 (by decide) (fun c11 => ?_) (fun c11 => ?_)
      · rw [if_pos c11] at h
        cases h
        exact KE _ _ _ (lv_sub hl [0, 3] rfl) hG
      · rw [if_neg c11] at h
        refine lv_iload hx hb dX3_coverOfAllBut_14 (lv_at hl 4 rfl) ?_
        refine lv_bipush (v := 6) hx hb dX3_coverOfAllBut_16 (by decide) ?_
        refine lv_icmp_ge (tgt := 58) hx hb dX3_coverOfAllBut_18 (by decide) (fun c18 => ?_) (fun c18 => ?_)
        · rw [if_pos c18] at h
          cases h
          exact KE _ _ _ (lv_sub hl [0, 3] rfl) hG
        · rw [if_neg c18] at h
          refine lv_iload hx hb dX3_coverOfAllBut_21 (lv_at hl 4 rfl) ?_
          refine lv_iload_n hx hb dX3_coverOfAllBut_23 rfl (lv_at hl 1 rfl) ?_
          refine lv_icmp_eq (tgt := 52) hx hb dX3_coverOfAllBut_24 (by decide) (fun c24 => ?_) (fun c24 => ?_)
          · rw [if_pos c24] at h
            exact hj_52 _ _ h _ _ _ (lv_sub hl [0, 1, 2, 3, 4] rfl) hG
          · rw [if_neg c24] at h
            refine lv_iload hx hb dX3_coverOfAllBut_27 (lv_at hl 4 rfl) ?_
            refine lv_iload_n hx hb dX3_coverOfAllBut_29 rfl (lv_at hl 2 rfl) ?_
            refine lv_icmp_eq (tgt := 52) hx hb dX3_coverOfAllBut_30 (by decide) (fun c30 => ?_) (fun c30 => ?_)
            · rw [if_pos c30] at h
              exact hj_52 _ _ h _ _ _ (lv_sub hl [0, 1, 2, 3, 4] rfl) hG
            · rw [if_neg c30] at h
              refine lv_aload_n hx hb dX3_coverOfAllBut_33 rfl (lv_at hl 0 rfl) ?_
              refine lv_iload hx hb dX3_coverOfAllBut_34 (lv_at hl 4 rfl) ?_
              obtain ⟨v36, e36, h⟩ := bd1_some h
              refine x_vi (rest := []) (ws' := (wX3 cI ad size need lifted licked morning tally kinds places lengths downs covers)) hc hG (cc_X3_isLifted ad size need lifted licked morning tally kinds places lengths downs covers x4 v36 e36) [0, 1, 2, 3, 4, 5] [] [0, 1, 2, 3, 4, 5] rfl rfl rfl 0 rfl rfl lX3_86 ⟨rfl, rfl, by decide, by decide⟩ rfl hl.1 (Nat.le_of_ble_eq_true rfl) rfl dX3_coverOfAllBut_36 (fun H locs hG => ?_)
              refine lv_if_ne (tgt := 52) hx hb dX3_coverOfAllBut_39 (by decide) (fun c39 => ?_) (fun c39 => ?_)
              · rw [if_neg c39] at h
                exact hj_52 _ _ h _ _ _ (lv_sub hl [0, 1, 2, 3, 4] rfl) hG
              · rw [if_pos c39] at h
                refine lv_iload_n hx hb dX3_coverOfAllBut_42 rfl (lv_at hl 3 rfl) ?_
                refine lv_aload_n hx hb dX3_coverOfAllBut_43 rfl (lv_at hl 0 rfl) ?_
                refine x_get hc hG 0 rfl iX3 4 lX3_24 rfl dX3_coverOfAllBut_44 ?_
                refine lv_iload hx hb dX3_coverOfAllBut_47 (lv_at hl 4 rfl) ?_
                obtain ⟨v49, e49, h⟩ := bd1_some h
                refine x_ald hc hG 5 rfl e49 dX3_coverOfAllBut_49 ?_
                refine lv_ior hx hb dX3_coverOfAllBut_50 ?_
                refine lv_istore_n (lv' := [(3, .int (x3 ||| v49)), (0, .ref (ad 0)), (1, .int x1), (2, .int x2), (4, .int x4)]) hx hb dX3_coverOfAllBut_51 rfl hl (by decide) rfl (fun ls hl => ?_)
                exact hj_52 _ _ h _ _ _ (lv_sub hl [1, 2, 3, 0, 4] rfl) hG
  unfold fX3_coverOfAllBut at h
  refine lv_iconst (v := 0) hx hb dX3_coverOfAllBut_0 (by decide) ?_
  refine lv_istore_n (lv' := [(3, .int 0), (0, .ref (ad 0)), (1, .int x1), (2, .int x2)]) hx hb dX3_coverOfAllBut_1 rfl hl (by decide) rfl (fun ls hl => ?_)
  refine lv_iconst (v := 0) hx hb dX3_coverOfAllBut_2 (by decide) ?_
  refine lv_istore (lv' := [(4, .int 0), (3, .int 0), (0, .ref (ad 0)), (1, .int x1), (2, .int x2)]) hx hb dX3_coverOfAllBut_3 hl (by decide) rfl (fun ls hl => ?_)
  obtain ⟨x3_L5, e5, h⟩ := bd1_some h
  refine hL_5 _ _ _ (fun ls H locs hl hG => ?_) _ _ _ e5 _ _ _ (lv_sub hl [2, 3, 4, 1, 0] rfl) hG
  refine lv_iload_n hx hb dX3_coverOfAllBut_58 rfl (lv_at hl 1 rfl) ?_
  cases h
  exact hret _ _ _ _ hG dX3_coverOfAllBut_59 rfl
set_option maxRecDepth 100000 in
set_option maxHeartbeats 4000000 in
theorem cc_X3_coveredNow {l : Launch} {D : va_G} {cI : ClassId} {tL : Nat} (ad : Nat → Nat) (size : Int32) (need : Int32) (lifted : Int32) (licked : Int32) (morning : Int32) (tally : Int32) (kinds : Nat → Int32) (places : Nat → Int32) (lengths : Nat → Int32) (downs : Nat → Int32) (covers : Nat → Int32) (r' : Int32) (h : fX3_coveredNow size lifted licked covers = some r') : Ci l D cI tL yX3_coveredNow cX3_coveredNow 1 .int rmX3_coveredNow (wX3 cI ad size need lifted licked morning tally kinds places lengths downs covers) [.ref (ad 0)] r' (wX3 cI ad size need lifted licked morning tally kinds places lengths downs covers) := by
  refine Ci_of (own := RX3) (by decide) (Nat.le_of_ble_eq_true rfl) rfl ?_
  intro p e s m below meth c Q A AV hc hret ls hl hG
  obtain ⟨hx, hb, hml, hown, hts, hK, hA, hz⟩ := id hc
  have hl : lv_has ls 1 [(0, .ref (ad 0))] := hl
  unfold fX3_coveredNow at h
  refine lv_aload_n hx hb dX3_coveredNow_0 rfl (lv_at hl 0 rfl) ?_
  refine lv_bipush (v := (-9)) hx hb dX3_coveredNow_1 (by decide) ?_
  refine lv_bipush (v := (-9)) hx hb dX3_coveredNow_3 (by decide) ?_
  obtain ⟨v5, e5, h⟩ := bd1_some h
  refine x_vi (rest := []) (ws' := (wX3 cI ad size need lifted licked morning tally kinds places lengths downs covers)) hc hG (cc_X3_coverOfAllBut ad size need lifted licked morning tally kinds places lengths downs covers (-9) (-9) v5 e5) [0, 1, 2, 3, 4, 5] [] [0, 1, 2, 3, 4, 5] rfl rfl rfl 0 rfl rfl lX3_89 ⟨rfl, rfl, by decide, by decide⟩ rfl hl.1 (Nat.le_of_ble_eq_true rfl) rfl dX3_coveredNow_5 (fun H locs hG => ?_)
  refine lv_aload_n hx hb dX3_coveredNow_8 rfl (lv_at hl 0 rfl) ?_
  refine x_get hc hG 0 rfl iX3 8 lX3_37 rfl dX3_coveredNow_9 ?_
  refine lv_iconst (v := (-1)) hx hb dX3_coveredNow_12 (by decide) ?_
  refine lv_ixor hx hb dX3_coveredNow_13 ?_
  refine lv_iand hx hb dX3_coveredNow_14 ?_
  cases h
  exact hret _ _ _ _ hG dX3_coveredNow_15 rfl
set_option maxRecDepth 100000 in
set_option maxHeartbeats 4000000 in
theorem cc_X3_linesBy {l : Launch} {D : va_G} {cI : ClassId} {tL : Nat} (ad : Nat → Nat) (size : Int32) (need : Int32) (lifted : Int32) (licked : Int32) (morning : Int32) (tally : Int32) (kinds : Nat → Int32) (places : Nat → Int32) (lengths : Nat → Int32) (downs : Nat → Int32) (covers : Nat → Int32) (x1 : Int32) (r' : Int32) (h : fX3_linesBy size need x1 = some r') : Ci l D cI tL yX3_linesBy cX3_linesBy 4 .int rmX3_linesBy (wX3 cI ad size need lifted licked morning tally kinds places lengths downs covers) [.ref (ad 0), .int x1] r' (wX3 cI ad size need lifted licked morning tally kinds places lengths downs covers) := by
  refine Ci_of (own := RX3) (by decide) (Nat.le_of_ble_eq_true rfl) rfl ?_
  intro p e s m below meth c Q A AV hc hret ls hl hG
  obtain ⟨hx, hb, hml, hown, hts, hK, hA, hz⟩ := id hc
  have hl : lv_has ls 4 [(0, .ref (ad 0)), (1, .int x1)] := hl
  have hL_4 : ∀ (x1 : Int32) (x2_o : Int32), (∀ (ls : Array Slot) (H : Heap) (locs : List Loc), lv_has ls 4 [(0, .ref (ad 0)), (2, .int x2_o)] → St D A s (wX3 cI ad size need lifted licked morning tally kinds places lengths downs covers) H locs → W p l e rmX3_linesBy s m AV below meth c H locs 0 0 Q (F0 m 46 ls [])) → ∀ (n : Nat) (x2 : Int32) (x3 : Int32), fX3_linesBy_L4 size need x1 n x2 x3 = some x2_o → ∀ (ls : Array Slot) (H : Heap) (locs : List Loc), lv_has ls 4 [(0, .ref (ad 0)), (1, .int x1), (2, .int x2), (3, .int x3)] → St D A s (wX3 cI ad size need lifted licked morning tally kinds places lengths downs covers) H locs → W p l e rmX3_linesBy s m AV below meth c H locs 0 0 Q (F0 m 4 ls []) := by
    intro x1 x2_o KE n
    induction n with
    | zero =>
      intro x2 x3 h
      exact nomatch (show none = some _ from h)
    | succ n ih =>
      intro x2 x3 h ls H locs hl hG
      have h : fX3_linesBy_B4 size need x1 (fX3_linesBy_L4 size need x1 n) x2 x3 = some x2_o := h
      have hj_40 : ∀ (x2 : Int32) (x3 : Int32) , fX3_linesBy_j40 (fX3_linesBy_L4 size need x1 n) size need x1 x2 x3 = some x2_o → ∀ (ls : Array Slot) (H : Heap) (locs : List Loc), lv_has ls 4 [(0, .ref (ad 0)), (1, .int x1), (2, .int x2), (3, .int x3)] → St D A s (wX3 cI ad size need lifted licked morning tally kinds places lengths downs covers) H locs → W p l e rmX3_linesBy s m AV below meth c H locs 0 0 Q (F0 m 40 ls []) := by
        intro x2 x3 h ls H locs hl hG
        unfold fX3_linesBy_j40 at h
        refine lv_iinc (v := (x3 + 1)) (lv' := [(3, .int (x3 + 1)), (0, .ref (ad 0)), (1, .int x1), (2, .int x2)]) hx hb dX3_linesBy_40 hl (k := 3) rfl rfl (by decide) rfl (fun ls hl => ?_)
        refine lv_goto (tgt := 4) hx hb dX3_linesBy_43 (by decide) ?_
        exact ih _ _ h _ _ _ (lv_sub hl [1, 2, 3, 0] rfl) hG
      unfold fX3_linesBy_B4 at h
      refine lv_iload_n hx hb dX3_linesBy_4 rfl (lv_at hl 3 rfl) ?_
      refine lv_bipush (v := 8) hx hb dX3_linesBy_5 (by decide) ?_
      refine lv_icmp_ge (tgt := 46) hx hb dX3_linesBy_7 (by decide) (fun c7 => ?_) (fun c7 => ?_)
      · rw [if_pos c7] at h
        cases h
        exact KE _ _ _ (lv_sub hl [0, 2] rfl) hG
      · rw [if_neg c7] at h
        refine lv_aload_n hx hb dX3_linesBy_10 rfl (lv_at hl 0 rfl) ?_
        refine x_get hc hG 0 rfl iX3 5 lX3_27 rfl dX3_linesBy_11 ?_
        refine lv_if_le (tgt := 46) hx hb dX3_linesBy_14 (by decide) (fun c14 => ?_) (fun c14 => ?_)
        · rw [if_pos c14] at h
          cases h
          exact KE _ _ _ (lv_sub hl [0, 2] rfl) hG
        · rw [if_neg c14] at h
          refine lv_iload_n hx hb dX3_linesBy_17 rfl (lv_at hl 1 rfl) ?_
          refine x_gets hc hG lX3_92 dX3_linesBy_18 ?_
          refine lv_iload_n hx hb dX3_linesBy_21 rfl (lv_at hl 3 rfl) ?_
          obtain ⟨v22, e22, h⟩ := bd1_some h
          refine x_sald hc hG e22 dX3_linesBy_22 ?_
          refine lv_iand hx hb dX3_linesBy_23 ?_
          refine x_si0 (rest := []) hc hG (cJ_bitc (x1 &&& v22)) lX3_69 ⟨rfl, rfl, by decide, by decide⟩ rfl hl.1 (Nat.le_of_ble_eq_true rfl) rfl dX3_linesBy_24 (fun H locs hG => ?_)
          refine lv_aload_n hx hb dX3_linesBy_27 rfl (lv_at hl 0 rfl) ?_
          refine x_get hc hG 0 rfl iX3 6 lX3_31 rfl dX3_linesBy_28 ?_
          refine lv_icmp_lt (tgt := 40) hx hb dX3_linesBy_31 (by decide) (fun c31 => ?_) (fun c31 => ?_)
          · rw [if_pos c31] at h
            exact hj_40 _ _ h _ _ _ (lv_sub hl [0, 1, 2, 3] rfl) hG
          · rw [if_neg c31] at h
            refine lv_iload_n hx hb dX3_linesBy_34 rfl (lv_at hl 2 rfl) ?_
            refine lv_iconst (v := 1) hx hb dX3_linesBy_35 (by decide) ?_
            refine lv_iload_n hx hb dX3_linesBy_36 rfl (lv_at hl 3 rfl) ?_
            refine lv_ishl hx hb dX3_linesBy_37 ?_
            refine lv_ior hx hb dX3_linesBy_38 ?_
            refine lv_istore_n (lv' := [(2, .int (x2 ||| ((1 : Int32) <<< (x3 &&& 31)))), (0, .ref (ad 0)), (1, .int x1), (3, .int x3)]) hx hb dX3_linesBy_39 rfl hl (by decide) rfl (fun ls hl => ?_)
            exact hj_40 _ _ h _ _ _ (lv_sub hl [1, 2, 0, 3] rfl) hG
  unfold fX3_linesBy at h
  refine lv_iconst (v := 0) hx hb dX3_linesBy_0 (by decide) ?_
  refine lv_istore_n (lv' := [(2, .int 0), (0, .ref (ad 0)), (1, .int x1)]) hx hb dX3_linesBy_1 rfl hl (by decide) rfl (fun ls hl => ?_)
  refine lv_iconst (v := 0) hx hb dX3_linesBy_2 (by decide) ?_
  refine lv_istore_n (lv' := [(3, .int 0), (2, .int 0), (0, .ref (ad 0)), (1, .int x1)]) hx hb dX3_linesBy_3 rfl hl (by decide) rfl (fun ls hl => ?_)
  obtain ⟨x2_L4, e4, h⟩ := bd1_some h
  refine hL_4 _ _ (fun ls H locs hl hG => ?_) _ _ _ e4 _ _ _ (lv_sub hl [2, 3, 1, 0] rfl) hG
  refine lv_iload_n hx hb dX3_linesBy_46 rfl (lv_at hl 1 rfl) ?_
  cases h
  exact hret _ _ _ _ hG dX3_linesBy_47 rfl
set_option maxRecDepth 100000 in
set_option maxHeartbeats 4000000 in
theorem cc_X3_linesNow {l : Launch} {D : va_G} {cI : ClassId} {tL : Nat} (ad : Nat → Nat) (size : Int32) (need : Int32) (lifted : Int32) (licked : Int32) (morning : Int32) (tally : Int32) (kinds : Nat → Int32) (places : Nat → Int32) (lengths : Nat → Int32) (downs : Nat → Int32) (covers : Nat → Int32) (r' : Int32) (h : fX3_linesNow size need lifted licked covers = some r') : Ci l D cI tL yX3_linesNow cX3_linesNow 1 .int rmX3_linesNow (wX3 cI ad size need lifted licked morning tally kinds places lengths downs covers) [.ref (ad 0)] r' (wX3 cI ad size need lifted licked morning tally kinds places lengths downs covers) := by
  refine Ci_of (own := RX3) (by decide) (Nat.le_of_ble_eq_true rfl) rfl ?_
  intro p e s m below meth c Q A AV hc hret ls hl hG
  obtain ⟨hx, hb, hml, hown, hts, hK, hA, hz⟩ := id hc
  have hl : lv_has ls 1 [(0, .ref (ad 0))] := hl
  unfold fX3_linesNow at h
  refine lv_aload_n hx hb dX3_linesNow_0 rfl (lv_at hl 0 rfl) ?_
  refine lv_aload_n hx hb dX3_linesNow_1 rfl (lv_at hl 0 rfl) ?_
  refine lv_bipush (v := (-9)) hx hb dX3_linesNow_2 (by decide) ?_
  refine lv_bipush (v := (-9)) hx hb dX3_linesNow_4 (by decide) ?_
  obtain ⟨v6, e6, h⟩ := bd1_some h
  refine x_vi (rest := [.ref (ad 0)]) (ws' := (wX3 cI ad size need lifted licked morning tally kinds places lengths downs covers)) hc hG (cc_X3_coverOfAllBut ad size need lifted licked morning tally kinds places lengths downs covers (-9) (-9) v6 e6) [0, 1, 2, 3, 4, 5] [] [0, 1, 2, 3, 4, 5] rfl rfl rfl 0 rfl rfl lX3_89 ⟨rfl, rfl, by decide, by decide⟩ rfl hl.1 (Nat.le_of_ble_eq_true rfl) rfl dX3_linesNow_6 (fun H locs hG => ?_)
  refine lv_aload_n hx hb dX3_linesNow_9 rfl (lv_at hl 0 rfl) ?_
  refine x_get hc hG 0 rfl iX3 8 lX3_37 rfl dX3_linesNow_10 ?_
  refine lv_iconst (v := (-1)) hx hb dX3_linesNow_13 (by decide) ?_
  refine lv_ixor hx hb dX3_linesNow_14 ?_
  refine lv_iand hx hb dX3_linesNow_15 ?_
  obtain ⟨v16, e16, h⟩ := bd1_some h
  refine x_vi (rest := []) (ws' := (wX3 cI ad size need lifted licked morning tally kinds places lengths downs covers)) hc hG (cc_X3_linesBy ad size need lifted licked morning tally kinds places lengths downs covers (v6 &&& (licked ^^^ (-1))) v16 e16) [0, 1, 2, 3, 4, 5] [] [0, 1, 2, 3, 4, 5] rfl rfl rfl 0 rfl rfl lX3_95 ⟨rfl, rfl, by decide, by decide⟩ rfl hl.1 (Nat.le_of_ble_eq_true rfl) rfl dX3_linesNow_16 (fun H locs hG => ?_)
  cases h
  exact hret _ _ _ _ hG dX3_linesNow_19 rfl
set_option maxRecDepth 100000 in
set_option maxHeartbeats 4000000 in
theorem cc_X3_areRead {l : Launch} {D : va_G} {cI : ClassId} {tL : Nat} (ad : Nat → Nat) (size : Int32) (need : Int32) (lifted : Int32) (licked : Int32) (morning : Int32) (tally : Int32) (kinds : Nat → Int32) (places : Nat → Int32) (lengths : Nat → Int32) (downs : Nat → Int32) (covers : Nat → Int32) (x1 : Int32) (x2 : Int32) (r' : Int32) (h : fX3_areRead need x1 x2 = some r') : Ci l D cI tL yX3_areRead cX3_areRead 4 .boolean rmX3_areRead (wX3 cI ad size need lifted licked morning tally kinds places lengths downs covers) [.ref (ad 0), .int x1, .int x2] r' (wX3 cI ad size need lifted licked morning tally kinds places lengths downs covers) := by
  refine Ci_of (own := RX3) (by decide) (Nat.le_of_ble_eq_true rfl) rfl ?_
  intro p e s m below meth c Q A AV hc hret ls hl hG
  obtain ⟨hx, hb, hml, hown, hts, hK, hA, hz⟩ := id hc
  have hl : lv_has ls 4 [(0, .ref (ad 0)), (1, .int x1), (2, .int x2)] := hl
  have hL_2 : ∀ (x1 : Int32) (x2 : Int32) (o : (Int32 ⊕ Unit)), (∀ (r : Int32), o = .inl r → ∀ (H : Heap) (locs : List Loc) (pc : Nat) (ls : Array Slot), St D A s (wX3 cI ad size need lifted licked morning tally kinds places lengths downs covers) H locs → decode cX3_areRead pc = .ok (.ireturn, 1) → narrow .boolean (.int r) = .int r → W p l e rmX3_areRead s m AV below meth c H locs 0 0 Q (F0 m pc ls [.int r])) → (∀ (_ : Unit), o = .inr () → ∀ (ls : Array Slot) (H : Heap) (locs : List Loc), lv_has ls 4 [(0, .ref (ad 0))] → St D A s (wX3 cI ad size need lifted licked morning tally kinds places lengths downs covers) H locs → W p l e rmX3_areRead s m AV below meth c H locs 0 0 Q (F0 m 42 ls [])) → ∀ (n : Nat) (x3 : Int32), fX3_areRead_L2 need x1 x2 n x3 = some o → ∀ (ls : Array Slot) (H : Heap) (locs : List Loc), lv_has ls 4 [(0, .ref (ad 0)), (1, .int x1), (2, .int x2), (3, .int x3)] → St D A s (wX3 cI ad size need lifted licked morning tally kinds places lengths downs covers) H locs → W p l e rmX3_areRead s m AV below meth c H locs 0 0 Q (F0 m 2 ls []) := by
    intro x1 x2 o KR KE n
    induction n with
    | zero =>
      intro x3 h
      exact nomatch (show none = some _ from h)
    | succ n ih =>
      intro x3 h ls H locs hl hG
      have h : fX3_areRead_B2 need x1 x2 (fX3_areRead_L2 need x1 x2 n) x3 = some o := h
      have hj_36 : ∀ (x3 : Int32) , fX3_areRead_j36 (fX3_areRead_L2 need x1 x2 n) need x1 x2 x3 = some o → ∀ (ls : Array Slot) (H : Heap) (locs : List Loc), lv_has ls 4 [(0, .ref (ad 0)), (1, .int x1), (2, .int x2), (3, .int x3)] → St D A s (wX3 cI ad size need lifted licked morning tally kinds places lengths downs covers) H locs → W p l e rmX3_areRead s m AV below meth c H locs 0 0 Q (F0 m 36 ls []) := by
        intro x3 h ls H locs hl hG
        unfold fX3_areRead_j36 at h
        refine lv_iinc (v := (x3 + 1)) (lv' := [(3, .int (x3 + 1)), (0, .ref (ad 0)), (1, .int x1), (2, .int x2)]) hx hb dX3_areRead_36 hl (k := 3) rfl rfl (by decide) rfl (fun ls hl => ?_)
        refine lv_goto (tgt := 2) hx hb dX3_areRead_39 (by decide) ?_
        exact ih _ h _ _ _ (lv_sub hl [1, 2, 3, 0] rfl) hG
      unfold fX3_areRead_B2 at h
      refine lv_iload_n hx hb dX3_areRead_2 rfl (lv_at hl 3 rfl) ?_
      refine lv_bipush (v := 8) hx hb dX3_areRead_3 (by decide) ?_
      refine lv_icmp_ge (tgt := 42) hx hb dX3_areRead_5 (by decide) (fun c5 => ?_) (fun c5 => ?_)
      · rw [if_pos c5] at h
        cases h
        exact KE () rfl _ _ _ (lv_sub hl [0] rfl) hG
      · rw [if_neg c5] at h
        refine lv_iload_n hx hb dX3_areRead_8 rfl (lv_at hl 1 rfl) ?_
        refine lv_iload_n hx hb dX3_areRead_9 rfl (lv_at hl 3 rfl) ?_
        obtain ⟨v10, e10, h⟩ := bd1_some h
        refine x_siN0 (rest := []) hc hG (cc_X4_bit x1 x3 v10 e10) lX3_54 ⟨rfl, rfl, by decide, by decide⟩ rfl hl.1 (Nat.le_of_ble_eq_true rfl) rfl dX3_areRead_10 (fun H locs hG => ?_)
        refine lv_iconst (v := 1) hx hb dX3_areRead_13 (by decide) ?_
        refine lv_icmp_ne (tgt := 36) hx hb dX3_areRead_14 (by decide) (fun c14 => ?_) (fun c14 => ?_)
        · rw [if_neg c14] at h
          exact hj_36 _ h _ _ _ (lv_sub hl [0, 1, 2, 3] rfl) hG
        · rw [if_pos c14] at h
          refine lv_iload_n hx hb dX3_areRead_17 rfl (lv_at hl 2 rfl) ?_
          refine x_gets hc hG lX3_92 dX3_areRead_18 ?_
          refine lv_iload_n hx hb dX3_areRead_21 rfl (lv_at hl 3 rfl) ?_
          obtain ⟨v22, e22, h⟩ := bd1_some h
          refine x_sald hc hG e22 dX3_areRead_22 ?_
          refine lv_iand hx hb dX3_areRead_23 ?_
          refine x_si0 (rest := []) hc hG (cJ_bitc (x2 &&& v22)) lX3_69 ⟨rfl, rfl, by decide, by decide⟩ rfl hl.1 (Nat.le_of_ble_eq_true rfl) rfl dX3_areRead_24 (fun H locs hG => ?_)
          refine lv_aload_n hx hb dX3_areRead_27 rfl (lv_at hl 0 rfl) ?_
          refine x_get hc hG 0 rfl iX3 6 lX3_31 rfl dX3_areRead_28 ?_
          refine lv_icmp_ge (tgt := 36) hx hb dX3_areRead_31 (by decide) (fun c31 => ?_) (fun c31 => ?_)
          · rw [if_pos c31] at h
            exact hj_36 _ h _ _ _ (lv_sub hl [0, 1, 2, 3] rfl) hG
          · rw [if_neg c31] at h
            refine lv_iconst (v := 0) hx hb dX3_areRead_34 (by decide) ?_
            cases h
            exact KR _ rfl _ _ _ _ hG dX3_areRead_35 rfl
  unfold fX3_areRead at h
  refine lv_iconst (v := 0) hx hb dX3_areRead_0 (by decide) ?_
  refine lv_istore_n (lv' := [(3, .int 0), (0, .ref (ad 0)), (1, .int x1), (2, .int x2)]) hx hb dX3_areRead_1 rfl hl (by decide) rfl (fun ls hl => ?_)
  rcases st0_some h with e2 | ⟨e2, h⟩
  · exact hL_2 _ _ _ (fun _ e H locs pc ls hG d hn => by cases e; exact hret _ _ _ _ hG d hn) (fun _ e => by cases e) _ _ e2 _ _ _ (lv_sub hl [1, 2, 3, 0] rfl) hG
  · refine hL_2 _ _ _ (fun _ e => by cases e) (fun _ e ls H locs hl hG => ?_) _ _ e2 _ _ _ (lv_sub hl [1, 2, 3, 0] rfl) hG
    cases e
    refine lv_iconst (v := 1) hx hb dX3_areRead_42 (by decide) ?_
    cases h
    exact hret _ _ _ _ hG dX3_areRead_43 rfl
set_option maxRecDepth 100000 in
set_option maxHeartbeats 4000000 in
theorem cc_X3_weightOn {l : Launch} {D : va_G} {cI : ClassId} {tL : Nat} (ad : Nat → Nat) (size : Int32) (need : Int32) (lifted : Int32) (licked : Int32) (morning : Int32) (tally : Int32) (kinds : Nat → Int32) (places : Nat → Int32) (lengths : Nat → Int32) (downs : Nat → Int32) (covers : Nat → Int32) (x1 : Int32) (r' : Int32) (h : fX3_weightOn size lifted kinds covers x1 = some r') : Ci l D cI tL yX3_weightOn cX3_weightOn 5 .int rmX3_weightOn (wX3 cI ad size need lifted licked morning tally kinds places lengths downs covers) [.ref (ad 0), .int x1] r' (wX3 cI ad size need lifted licked morning tally kinds places lengths downs covers) := by
  refine Ci_of (own := RX3) (by decide) (Nat.le_of_ble_eq_true rfl) rfl ?_
  intro p e s m below meth c Q A AV hc hret ls hl hG
  obtain ⟨hx, hb, hml, hown, hts, hK, hA, hz⟩ := id hc
  have hl : lv_has ls 5 [(0, .ref (ad 0)), (1, .int x1)] := hl
  have hL_25 : ∀ (x3 : Int32) (x2_o : Int32), (∀ (ls : Array Slot) (H : Heap) (locs : List Loc), lv_has ls 5 [(0, .ref (ad 0)), (2, .int x2_o)] → St D A s (wX3 cI ad size need lifted licked morning tally kinds places lengths downs covers) H locs → W p l e rmX3_weightOn s m AV below meth c H locs 0 0 Q (F0 m 81 ls [])) → ∀ (n : Nat) (x2 : Int32) (x4 : Int32), fX3_weightOn_L25 size lifted kinds covers x3 n x2 x4 = some x2_o → ∀ (ls : Array Slot) (H : Heap) (locs : List Loc), lv_has ls 5 [(0, .ref (ad 0)), (2, .int x2), (3, .int x3), (4, .int x4)] → St D A s (wX3 cI ad size need lifted licked morning tally kinds places lengths downs covers) H locs → W p l e rmX3_weightOn s m AV below meth c H locs 0 0 Q (F0 m 25 ls []) := by
    intro x3 x2_o KE n
    induction n with
    | zero =>
      intro x2 x4 h
      exact nomatch (show none = some _ from h)
    | succ n ih =>
      intro x2 x4 h ls H locs hl hG
      have h : fX3_weightOn_B25 size lifted kinds covers x3 (fX3_weightOn_L25 size lifted kinds covers x3 n) x2 x4 = some x2_o := h
      have hj_75 : ∀ (x2 : Int32) (x4 : Int32) , fX3_weightOn_j75 (fX3_weightOn_L25 size lifted kinds covers x3 n) size lifted kinds covers x2 x3 x4 = some x2_o → ∀ (ls : Array Slot) (H : Heap) (locs : List Loc), lv_has ls 5 [(0, .ref (ad 0)), (2, .int x2), (3, .int x3), (4, .int x4)] → St D A s (wX3 cI ad size need lifted licked morning tally kinds places lengths downs covers) H locs → W p l e rmX3_weightOn s m AV below meth c H locs 0 0 Q (F0 m 75 ls []) := by
        intro x2 x4 h ls H locs hl hG
        unfold fX3_weightOn_j75 at h
        refine lv_iinc (v := (x4 + 1)) (lv' := [(4, .int (x4 + 1)), (0, .ref (ad 0)), (2, .int x2), (3, .int x3)]) hx hb dX3_weightOn_75 hl (k := 3) rfl rfl (by decide) rfl (fun ls hl => ?_)
        refine lv_goto (tgt := 25) hx hb dX3_weightOn_78 (by decide) ?_
        exact ih _ _ h _ _ _ (lv_sub hl [1, 2, 3, 0] rfl) hG
      unfold fX3_weightOn_B25 at h
      refine lv_iload hx hb dX3_weightOn_25 (lv_at hl 3 rfl) ?_
      refine lv_aload_n hx hb dX3_weightOn_27 rfl (lv_at hl 0 rfl) ?_
      refine x_get hc hG 0 rfl iX3 5 lX3_27 rfl dX3_weightOn_28 ?_
      refine lv_icmp_ge (tgt := 81) hx hb dX3_weightOn_31 (by decide) (fun c31 => ?_) (fun c31 => ?_)
      · rw [if_pos c31] at h
        cases h
        exact KE _ _ _ (lv_sub hl [0, 1] rfl) hG
      · rw [if_neg c31] at h
        refine lv_iload hx hb dX3_weightOn_34 (lv_at hl 3 rfl) ?_
        refine lv_bipush (v := 6) hx hb dX3_weightOn_36 (by decide) ?_
        refine lv_icmp_ge (tgt := 81) hx hb dX3_weightOn_38 (by decide) (fun c38 => ?_) (fun c38 => ?_)
        · rw [if_pos c38] at h
          cases h
          exact KE _ _ _ (lv_sub hl [0, 1] rfl) hG
        · rw [if_neg c38] at h
          refine lv_aload_n hx hb dX3_weightOn_41 rfl (lv_at hl 0 rfl) ?_
          refine lv_iload hx hb dX3_weightOn_42 (lv_at hl 3 rfl) ?_
          obtain ⟨v44, e44, h⟩ := bd1_some h
          refine x_vi (rest := []) (ws' := (wX3 cI ad size need lifted licked morning tally kinds places lengths downs covers)) hc hG (cc_X3_isLifted ad size need lifted licked morning tally kinds places lengths downs covers x4 v44 e44) [0, 1, 2, 3, 4, 5] [] [0, 1, 2, 3, 4, 5] rfl rfl rfl 0 rfl rfl lX3_86 ⟨rfl, rfl, by decide, by decide⟩ rfl hl.1 (Nat.le_of_ble_eq_true rfl) rfl dX3_weightOn_44 (fun H locs hG => ?_)
          refine lv_if_ne (tgt := 75) hx hb dX3_weightOn_47 (by decide) (fun c47 => ?_) (fun c47 => ?_)
          · rw [if_neg c47] at h
            exact hj_75 _ _ h _ _ _ (lv_sub hl [0, 1, 2, 3] rfl) hG
          · rw [if_pos c47] at h
            refine lv_aload_n hx hb dX3_weightOn_50 rfl (lv_at hl 0 rfl) ?_
            refine x_get hc hG 0 rfl iX3 4 lX3_24 rfl dX3_weightOn_51 ?_
            refine lv_iload hx hb dX3_weightOn_54 (lv_at hl 3 rfl) ?_
            obtain ⟨v56, e56, h⟩ := bd1_some h
            refine x_ald hc hG 5 rfl e56 dX3_weightOn_56 ?_
            refine lv_iload_n hx hb dX3_weightOn_57 rfl (lv_at hl 2 rfl) ?_
            refine lv_iand hx hb dX3_weightOn_58 ?_
            refine lv_if_eq (tgt := 75) hx hb dX3_weightOn_59 (by decide) (fun c59 => ?_) (fun c59 => ?_)
            · rw [if_pos c59] at h
              exact hj_75 _ _ h _ _ _ (lv_sub hl [0, 1, 2, 3] rfl) hG
            · rw [if_neg c59] at h
              refine lv_iload_n hx hb dX3_weightOn_62 rfl (lv_at hl 1 rfl) ?_
              refine lv_aload_n hx hb dX3_weightOn_63 rfl (lv_at hl 0 rfl) ?_
              refine x_get hc hG 0 rfl iX3 0 lX3_9 rfl dX3_weightOn_64 ?_
              refine lv_iload hx hb dX3_weightOn_67 (lv_at hl 3 rfl) ?_
              obtain ⟨v69, e69, h⟩ := bd1_some h
              refine x_ald hc hG 1 rfl e69 dX3_weightOn_69 ?_
              obtain ⟨v70, e70, h⟩ := bd1_some h
              refine x_si0 (rest := [.int x2]) hc hG (cc_X3_weightBy v69 v70 e70) lX3_58 ⟨rfl, rfl, by decide, by decide⟩ rfl hl.1 (Nat.le_of_ble_eq_true rfl) rfl dX3_weightOn_70 (fun H locs hG => ?_)
              refine lv_iadd hx hb dX3_weightOn_73 ?_
              refine lv_istore_n (lv' := [(2, .int (x2 + v70)), (0, .ref (ad 0)), (3, .int x3), (4, .int x4)]) hx hb dX3_weightOn_74 rfl hl (by decide) rfl (fun ls hl => ?_)
              exact hj_75 _ _ h _ _ _ (lv_sub hl [1, 0, 2, 3] rfl) hG
  have hj_21 : ∀ (x2 : Int32) (k0 : Int32) , fX3_weightOn_j21 size lifted kinds covers x2 k0 = some r' → ∀ (ls : Array Slot) (H : Heap) (locs : List Loc), lv_has ls 5 [(0, .ref (ad 0)), (2, .int x2)] → St D A s (wX3 cI ad size need lifted licked morning tally kinds places lengths downs covers) H locs → W p l e rmX3_weightOn s m AV below meth c H locs 0 0 Q (F0 m 21 ls [.int k0]) := by
    intro x2 k0 h ls H locs hl hG
    unfold fX3_weightOn_j21 at h
    refine lv_istore_n (lv' := [(3, .int k0), (0, .ref (ad 0)), (2, .int x2)]) hx hb dX3_weightOn_21 rfl hl (by decide) rfl (fun ls hl => ?_)
    refine lv_iconst (v := 0) hx hb dX3_weightOn_22 (by decide) ?_
    refine lv_istore (lv' := [(4, .int 0), (3, .int k0), (0, .ref (ad 0)), (2, .int x2)]) hx hb dX3_weightOn_23 hl (by decide) rfl (fun ls hl => ?_)
    obtain ⟨x2_L25, e25, h⟩ := bd1_some h
    refine hL_25 _ _ (fun ls H locs hl hG => ?_) _ _ _ e25 _ _ _ (lv_sub hl [2, 3, 1, 0] rfl) hG
    refine lv_iload_n hx hb dX3_weightOn_81 rfl (lv_at hl 1 rfl) ?_
    cases h
    exact hret _ _ _ _ hG dX3_weightOn_82 rfl
  have hj_20 : ∀ (x2 : Int32) , fX3_weightOn_j20 size lifted kinds covers x2 = some r' → ∀ (ls : Array Slot) (H : Heap) (locs : List Loc), lv_has ls 5 [(0, .ref (ad 0)), (2, .int x2)] → St D A s (wX3 cI ad size need lifted licked morning tally kinds places lengths downs covers) H locs → W p l e rmX3_weightOn s m AV below meth c H locs 0 0 Q (F0 m 20 ls []) := by
    intro x2 h ls H locs hl hG
    unfold fX3_weightOn_j20 at h
    refine lv_iconst (v := 0) hx hb dX3_weightOn_20 (by decide) ?_
    exact hj_21 _ _ h _ _ _ (lv_sub hl [0, 1] rfl) hG
  unfold fX3_weightOn at h
  refine lv_iconst (v := 0) hx hb dX3_weightOn_0 (by decide) ?_
  refine lv_istore_n (lv' := [(2, .int 0), (0, .ref (ad 0)), (1, .int x1)]) hx hb dX3_weightOn_1 rfl hl (by decide) rfl (fun ls hl => ?_)
  refine lv_iload_n hx hb dX3_weightOn_2 rfl (lv_at hl 2 rfl) ?_
  refine lv_if_lt (tgt := 20) hx hb dX3_weightOn_3 (by decide) (fun c3 => ?_) (fun c3 => ?_)
  · rw [if_pos c3] at h
    exact hj_20 _ h _ _ _ (lv_sub hl [1, 0] rfl) hG
  · rw [if_neg c3] at h
    refine lv_iload_n hx hb dX3_weightOn_6 rfl (lv_at hl 2 rfl) ?_
    refine lv_bipush (v := 8) hx hb dX3_weightOn_7 (by decide) ?_
    refine lv_icmp_ge (tgt := 20) hx hb dX3_weightOn_9 (by decide) (fun c9 => ?_) (fun c9 => ?_)
    · rw [if_pos c9] at h
      exact hj_20 _ h _ _ _ (lv_sub hl [1, 0] rfl) hG
    · rw [if_neg c9] at h
      refine x_gets hc hG lX3_92 dX3_weightOn_12 ?_
      refine lv_iload_n hx hb dX3_weightOn_15 rfl (lv_at hl 2 rfl) ?_
      obtain ⟨v16, e16, h⟩ := bd1_some h
      refine x_sald hc hG e16 dX3_weightOn_16 ?_
      refine lv_goto (tgt := 21) hx hb dX3_weightOn_17 (by decide) ?_
      exact hj_21 _ _ h _ _ _ (lv_sub hl [1, 0] rfl) hG
set_option maxRecDepth 100000 in
set_option maxHeartbeats 4000000 in
theorem cc_X3_lengthOfAll {l : Launch} {D : va_G} {cI : ClassId} {tL : Nat} (ad : Nat → Nat) (size : Int32) (need : Int32) (lifted : Int32) (licked : Int32) (morning : Int32) (tally : Int32) (kinds : Nat → Int32) (places : Nat → Int32) (lengths : Nat → Int32) (downs : Nat → Int32) (covers : Nat → Int32) (x1 : Int32) (r' : Int32) (h : fX3_lengthOfAll size lengths x1 = some r') : Ci l D cI tL yX3_lengthOfAll cX3_lengthOfAll 4 .int rmX3_lengthOfAll (wX3 cI ad size need lifted licked morning tally kinds places lengths downs covers) [.ref (ad 0), .int x1] r' (wX3 cI ad size need lifted licked morning tally kinds places lengths downs covers) := by
  refine Ci_of (own := RX3) (by decide) (Nat.le_of_ble_eq_true rfl) rfl ?_
  intro p e s m below meth c Q A AV hc hret ls hl hG
  obtain ⟨hx, hb, hml, hown, hts, hK, hA, hz⟩ := id hc
  have hl : lv_has ls 4 [(0, .ref (ad 0)), (1, .int x1)] := hl
  have hL_4 : ∀ (x1 : Int32) (x2_o : Int32), (∀ (ls : Array Slot) (H : Heap) (locs : List Loc), lv_has ls 4 [(0, .ref (ad 0)), (2, .int x2_o)] → St D A s (wX3 cI ad size need lifted licked morning tally kinds places lengths downs covers) H locs → W p l e rmX3_lengthOfAll s m AV below meth c H locs 0 0 Q (F0 m 39 ls [])) → ∀ (n : Nat) (x2 : Int32) (x3 : Int32), fX3_lengthOfAll_L4 size lengths x1 n x2 x3 = some x2_o → ∀ (ls : Array Slot) (H : Heap) (locs : List Loc), lv_has ls 4 [(0, .ref (ad 0)), (1, .int x1), (2, .int x2), (3, .int x3)] → St D A s (wX3 cI ad size need lifted licked morning tally kinds places lengths downs covers) H locs → W p l e rmX3_lengthOfAll s m AV below meth c H locs 0 0 Q (F0 m 4 ls []) := by
    intro x1 x2_o KE n
    induction n with
    | zero =>
      intro x2 x3 h
      exact nomatch (show none = some _ from h)
    | succ n ih =>
      intro x2 x3 h ls H locs hl hG
      have h : fX3_lengthOfAll_B4 size lengths x1 (fX3_lengthOfAll_L4 size lengths x1 n) x2 x3 = some x2_o := h
      unfold fX3_lengthOfAll_B4 at h
      refine lv_iload_n hx hb dX3_lengthOfAll_4 rfl (lv_at hl 3 rfl) ?_
      refine lv_aload_n hx hb dX3_lengthOfAll_5 rfl (lv_at hl 0 rfl) ?_
      refine x_get hc hG 0 rfl iX3 5 lX3_27 rfl dX3_lengthOfAll_6 ?_
      refine lv_icmp_ge (tgt := 39) hx hb dX3_lengthOfAll_9 (by decide) (fun c9 => ?_) (fun c9 => ?_)
      · rw [if_pos c9] at h
        cases h
        exact KE _ _ _ (lv_sub hl [0, 2] rfl) hG
      · rw [if_neg c9] at h
        refine lv_iload_n hx hb dX3_lengthOfAll_12 rfl (lv_at hl 3 rfl) ?_
        refine lv_bipush (v := 6) hx hb dX3_lengthOfAll_13 (by decide) ?_
        refine lv_icmp_ge (tgt := 39) hx hb dX3_lengthOfAll_15 (by decide) (fun c15 => ?_) (fun c15 => ?_)
        · rw [if_pos c15] at h
          cases h
          exact KE _ _ _ (lv_sub hl [0, 2] rfl) hG
        · rw [if_neg c15] at h
          refine lv_iload_n hx hb dX3_lengthOfAll_18 rfl (lv_at hl 2 rfl) ?_
          refine lv_iload_n hx hb dX3_lengthOfAll_19 rfl (lv_at hl 1 rfl) ?_
          refine lv_iload_n hx hb dX3_lengthOfAll_20 rfl (lv_at hl 3 rfl) ?_
          obtain ⟨v21, e21, h⟩ := bd1_some h
          refine x_siN0 (rest := [.int x2]) hc hG (cc_X4_bit x1 x3 v21 e21) lX3_54 ⟨rfl, rfl, by decide, by decide⟩ rfl hl.1 (Nat.le_of_ble_eq_true rfl) rfl dX3_lengthOfAll_21 (fun H locs hG => ?_)
          refine lv_aload_n hx hb dX3_lengthOfAll_24 rfl (lv_at hl 0 rfl) ?_
          refine x_get hc hG 0 rfl iX3 2 lX3_18 rfl dX3_lengthOfAll_25 ?_
          refine lv_iload_n hx hb dX3_lengthOfAll_28 rfl (lv_at hl 3 rfl) ?_
          obtain ⟨v29, e29, h⟩ := bd1_some h
          refine x_ald hc hG 3 rfl e29 dX3_lengthOfAll_29 ?_
          refine lv_imul hx hb dX3_lengthOfAll_30 ?_
          refine lv_iadd hx hb dX3_lengthOfAll_31 ?_
          refine lv_istore_n (lv' := [(2, .int (x2 + (v21 * v29))), (0, .ref (ad 0)), (1, .int x1), (3, .int x3)]) hx hb dX3_lengthOfAll_32 rfl hl (by decide) rfl (fun ls hl => ?_)
          refine lv_iinc (v := (x3 + 1)) (lv' := [(3, .int (x3 + 1)), (2, .int (x2 + (v21 * v29))), (0, .ref (ad 0)), (1, .int x1)]) hx hb dX3_lengthOfAll_33 hl (k := 3) rfl rfl (by decide) rfl (fun ls hl => ?_)
          refine lv_goto (tgt := 4) hx hb dX3_lengthOfAll_36 (by decide) ?_
          exact ih _ _ h _ _ _ (lv_sub hl [2, 3, 1, 0] rfl) hG
  unfold fX3_lengthOfAll at h
  refine lv_iconst (v := 0) hx hb dX3_lengthOfAll_0 (by decide) ?_
  refine lv_istore_n (lv' := [(2, .int 0), (0, .ref (ad 0)), (1, .int x1)]) hx hb dX3_lengthOfAll_1 rfl hl (by decide) rfl (fun ls hl => ?_)
  refine lv_iconst (v := 0) hx hb dX3_lengthOfAll_2 (by decide) ?_
  refine lv_istore_n (lv' := [(3, .int 0), (2, .int 0), (0, .ref (ad 0)), (1, .int x1)]) hx hb dX3_lengthOfAll_3 rfl hl (by decide) rfl (fun ls hl => ?_)
  obtain ⟨x2_L4, e4, h⟩ := bd1_some h
  refine hL_4 _ _ (fun ls H locs hl hG => ?_) _ _ _ e4 _ _ _ (lv_sub hl [2, 3, 1, 0] rfl) hG
  refine lv_iload_n hx hb dX3_lengthOfAll_39 rfl (lv_at hl 1 rfl) ?_
  cases h
  exact hret _ _ _ _ hG dX3_lengthOfAll_40 rfl
set_option maxRecDepth 100000 in
set_option maxHeartbeats 4000000 in
theorem cc_X3_setKind {l : Launch} {D : va_G} {cI : ClassId} {tL : Nat} (ad : Nat → Nat) (size : Int32) (need : Int32) (lifted : Int32) (licked : Int32) (morning : Int32) (tally : Int32) (kinds : Nat → Int32) (places : Nat → Int32) (lengths : Nat → Int32) (downs : Nat → Int32) (covers : Nat → Int32) (x1 : Int32) (x2 : Int32) (kinds' : Nat → Int32) (covers' : Nat → Int32) (h : fX3_setKind size kinds places lengths downs covers x1 x2 = some (kinds', covers')) : Cv l D cI tL yX3_setKind cX3_setKind 3 rmX3_setKind (wX3 cI ad size need lifted licked morning tally kinds places lengths downs covers) [.ref (ad 0), .int x1, .int x2] (wX3 cI ad size need lifted licked morning tally kinds' places lengths downs covers') := by
  refine Cv_of (own := RX3) (by decide) (Nat.le_of_ble_eq_true rfl) rfl ?_
  intro p e s m below meth c Q A AV hc hret ls hl hG
  obtain ⟨hx, hb, hml, hown, hts, hK, hA, hz⟩ := id hc
  have hl : lv_has ls 3 [(0, .ref (ad 0)), (1, .int x1), (2, .int x2)] := hl
  unfold fX3_setKind at h
  refine lv_aload_n hx hb dX3_setKind_0 rfl (lv_at hl 0 rfl) ?_
  refine lv_iload_n hx hb dX3_setKind_1 rfl (lv_at hl 1 rfl) ?_
  obtain ⟨v2, e2, h⟩ := bd1_some h
  refine x_vi (rest := []) (ws' := (wX3 cI ad size need lifted licked morning tally kinds places lengths downs covers)) hc hG (cc_X3_has ad size need lifted licked morning tally kinds places lengths downs covers x1 v2 e2) [0, 1, 2, 3, 4, 5] [] [0, 1, 2, 3, 4, 5] rfl rfl rfl 0 rfl rfl lX3_50 ⟨rfl, rfl, by decide, by decide⟩ rfl hl.1 (Nat.le_of_ble_eq_true rfl) rfl dX3_setKind_2 (fun H locs hG => ?_)
  refine lv_if_eq (tgt := 43) hx hb dX3_setKind_5 (by decide) (fun c5 => ?_) (fun c5 => ?_)
  · rw [if_pos c5] at h
    cases h
    exact hret _ _ _ _ hG dX3_setKind_43
  · rw [if_neg c5] at h
    refine lv_aload_n hx hb dX3_setKind_8 rfl (lv_at hl 0 rfl) ?_
    refine x_get hc hG 0 rfl iX3 0 lX3_9 rfl dX3_setKind_9 ?_
    refine lv_iload_n hx hb dX3_setKind_12 rfl (lv_at hl 1 rfl) ?_
    refine lv_iload_n hx hb dX3_setKind_13 rfl (lv_at hl 2 rfl) ?_
    obtain ⟨kinds_14, e14, h⟩ := bd1_some h
    refine x_ast (ws' := (wX3 cI ad size need lifted licked morning tally kinds_14 places lengths downs covers)) hc hG 1 rfl e14 rfl dX3_setKind_14 (fun H locs hG => ?_)
    refine lv_aload_n hx hb dX3_setKind_15 rfl (lv_at hl 0 rfl) ?_
    refine x_get hc hG 0 rfl iX3 4 lX3_24 rfl dX3_setKind_16 ?_
    refine lv_iload_n hx hb dX3_setKind_19 rfl (lv_at hl 1 rfl) ?_
    refine lv_iload_n hx hb dX3_setKind_20 rfl (lv_at hl 2 rfl) ?_
    refine lv_aload_n hx hb dX3_setKind_21 rfl (lv_at hl 0 rfl) ?_
    refine x_get hc hG 0 rfl iX3 1 lX3_15 rfl dX3_setKind_22 ?_
    refine lv_iload_n hx hb dX3_setKind_25 rfl (lv_at hl 1 rfl) ?_
    obtain ⟨v26, e26, h⟩ := bd1_some h
    refine x_ald hc hG 2 rfl e26 dX3_setKind_26 ?_
    refine lv_aload_n hx hb dX3_setKind_27 rfl (lv_at hl 0 rfl) ?_
    refine x_get hc hG 0 rfl iX3 2 lX3_18 rfl dX3_setKind_28 ?_
    refine lv_iload_n hx hb dX3_setKind_31 rfl (lv_at hl 1 rfl) ?_
    obtain ⟨v32, e32, h⟩ := bd1_some h
    refine x_ald hc hG 3 rfl e32 dX3_setKind_32 ?_
    refine lv_aload_n hx hb dX3_setKind_33 rfl (lv_at hl 0 rfl) ?_
    refine x_get hc hG 0 rfl iX3 3 lX3_21 rfl dX3_setKind_34 ?_
    refine lv_iload_n hx hb dX3_setKind_37 rfl (lv_at hl 1 rfl) ?_
    obtain ⟨v38, e38, h⟩ := bd1_some h
    refine x_ald hc hG 4 rfl e38 dX3_setKind_38 ?_
    obtain ⟨v39, e39, h⟩ := bd1_some h
    refine x_si0 (rest := [.int x1, .ref (ad 5)]) hc hG (cc_X3_coverBy x2 v26 v32 v38 v39 e39) lX3_82 ⟨rfl, rfl, by decide, by decide⟩ rfl hl.1 (Nat.le_of_ble_eq_true rfl) rfl dX3_setKind_39 (fun H locs hG => ?_)
    obtain ⟨covers_42, e42, h⟩ := bd1_some h
    refine x_ast (ws' := (wX3 cI ad size need lifted licked morning tally kinds_14 places lengths downs covers_42)) hc hG 5 rfl e42 rfl dX3_setKind_42 (fun H locs hG => ?_)
    cases h
    exact hret _ _ _ _ hG dX3_setKind_43
set_option maxRecDepth 100000 in
set_option maxHeartbeats 4000000 in
theorem cc_X3_fall {l : Launch} {D : va_G} {cI : ClassId} {tL : Nat} (ad : Nat → Nat) (size : Int32) (need : Int32) (lifted : Int32) (licked : Int32) (morning : Int32) (tally : Int32) (kinds : Nat → Int32) (places : Nat → Int32) (lengths : Nat → Int32) (downs : Nat → Int32) (covers : Nat → Int32) (morning' : Int32) (tally' : Int32) (places' : Nat → Int32) (downs' : Nat → Int32) (covers' : Nat → Int32) (h : fX3_fall size need lifted licked morning tally kinds places lengths downs covers = some (morning', tally', places', downs', covers')) : Cv l D cI tL yX3_fall cX3_fall 4 rmX3_fall (wX3 cI ad size need lifted licked morning tally kinds places lengths downs covers) [.ref (ad 0)] (wX3 cI ad size need lifted licked morning' tally' kinds places' lengths downs' covers') := by
  refine Cv_of (own := RX3) (by decide) (Nat.le_of_ble_eq_true rfl) rfl ?_
  intro p e s m below meth c Q A AV hc hret ls hl hG
  obtain ⟨hx, hb, hml, hown, hts, hK, hA, hz⟩ := id hc
  have hl : lv_has ls 4 [(0, .ref (ad 0))] := hl
  have hL_18 : ∀ (morning : Int32) (x1 : Int32) (tally : Int32) (places_o : Nat → Int32) (downs_o : Nat → Int32) (covers_o : Nat → Int32), (∀ (ls : Array Slot) (H : Heap) (locs : List Loc), lv_has ls 4 [(0, .ref (ad 0))] → St D A s (wX3 cI ad size need lifted licked morning tally kinds places_o lengths downs_o covers_o) H locs → W p l e rmX3_fall s m AV below meth c H locs 0 0 Q (F0 m 97 ls [])) → ∀ (n : Nat) (places : Nat → Int32) (downs : Nat → Int32) (covers : Nat → Int32) (x2 : Int32), fX3_fall_L18 size lifted morning kinds lengths x1 n places downs covers x2 = some (places_o, downs_o, covers_o) → ∀ (ls : Array Slot) (H : Heap) (locs : List Loc), lv_has ls 4 [(0, .ref (ad 0)), (1, .int x1), (2, .int x2)] → St D A s (wX3 cI ad size need lifted licked morning tally kinds places lengths downs covers) H locs → W p l e rmX3_fall s m AV below meth c H locs 0 0 Q (F0 m 18 ls []) := by
    intro morning x1 tally places_o downs_o covers_o KE n
    induction n with
    | zero =>
      intro places downs covers x2 h
      exact nomatch (show none = some _ from h)
    | succ n ih =>
      intro places downs covers x2 h ls H locs hl hG
      have h : fX3_fall_B18 size lifted morning kinds lengths x1 (fX3_fall_L18 size lifted morning kinds lengths x1 n) places downs covers x2 = some (places_o, downs_o, covers_o) := h
      have hj_91 : ∀ (places : Nat → Int32) (downs : Nat → Int32) (covers : Nat → Int32) (x2 : Int32) , fX3_fall_j91 (fX3_fall_L18 size lifted morning kinds lengths x1 n) size lifted morning kinds places lengths downs covers x1 x2 = some (places_o, downs_o, covers_o) → ∀ (ls : Array Slot) (H : Heap) (locs : List Loc), lv_has ls 4 [(0, .ref (ad 0)), (1, .int x1), (2, .int x2)] → St D A s (wX3 cI ad size need lifted licked morning tally kinds places lengths downs covers) H locs → W p l e rmX3_fall s m AV below meth c H locs 0 0 Q (F0 m 91 ls []) := by
        intro places downs covers x2 h ls H locs hl hG
        unfold fX3_fall_j91 at h
        refine lv_iinc (v := (x2 + 1)) (lv' := [(2, .int (x2 + 1)), (0, .ref (ad 0)), (1, .int x1)]) hx hb dX3_fall_91 hl (k := 2) rfl rfl (by decide) rfl (fun ls hl => ?_)
        refine lv_goto (tgt := 18) hx hb dX3_fall_94 (by decide) ?_
        exact ih _ _ _ _ h _ _ _ (lv_sub hl [1, 2, 0] rfl) hG
      have hj_88 : ∀ (places : Nat → Int32) (downs : Nat → Int32) (covers : Nat → Int32) (x2 : Int32) (k1 : Int32) (k2 : Int32) (k3 : Int32) , fX3_fall_j88 (fX3_fall_L18 size lifted morning kinds lengths x1 n) size lifted morning kinds places lengths downs covers x1 x2 k1 k2 k3 = some (places_o, downs_o, covers_o) → ∀ (ls : Array Slot) (H : Heap) (locs : List Loc), lv_has ls 4 [(0, .ref (ad 0)), (1, .int x1), (2, .int x2)] → St D A s (wX3 cI ad size need lifted licked morning tally kinds places lengths downs covers) H locs → W p l e rmX3_fall s m AV below meth c H locs 0 0 Q (F0 m 88 ls [.int k3, .int k2, .int k1, .ref (ad 0)]) := by
        intro places downs covers x2 k1 k2 k3 h ls H locs hl hG
        unfold fX3_fall_j88 at h
        obtain ⟨places_88, downs_88, covers_88, e88, h⟩ := bd3_some h
        refine x_vv (rest := []) (ws' := (wX3 cI ad size need lifted licked morning tally kinds places_88 lengths downs_88 covers_88)) hc hG (cc_X3_settle ad size need lifted licked morning tally kinds places lengths downs covers k1 k2 k3 places_88 downs_88 covers_88 e88) [0, 1, 2, 3, 4, 5] [] [0, 1, 2, 3, 4, 5] rfl rfl rfl 0 rfl rfl lX3_46 ⟨rfl, rfl, by decide, by decide⟩ rfl hl.1 (Nat.le_of_ble_eq_true rfl) rfl dX3_fall_88 (fun H locs hG => ?_)
        exact hj_91 _ _ _ _ h _ _ _ (lv_sub hl [0, 1, 2] rfl) hG
      unfold fX3_fall_B18 at h
      refine lv_iload_n hx hb dX3_fall_18 rfl (lv_at hl 2 rfl) ?_
      refine lv_aload_n hx hb dX3_fall_19 rfl (lv_at hl 0 rfl) ?_
      refine x_get hc hG 0 rfl iX3 5 lX3_27 rfl dX3_fall_20 ?_
      refine lv_icmp_ge (tgt := 97) hx hb dX3_fall_23 (by decide) (fun c23 => ?_) (fun c23 => ?_)
      · rw [if_pos c23] at h
        cases h
        exact KE _ _ _ (lv_sub hl [0] rfl) hG
      · rw [if_neg c23] at h
        refine lv_iload_n hx hb dX3_fall_26 rfl (lv_at hl 2 rfl) ?_
        refine lv_bipush (v := 6) hx hb dX3_fall_27 (by decide) ?_
        refine lv_icmp_ge (tgt := 97) hx hb dX3_fall_29 (by decide) (fun c29 => ?_) (fun c29 => ?_)
        · rw [if_pos c29] at h
          cases h
          exact KE _ _ _ (lv_sub hl [0] rfl) hG
        · rw [if_neg c29] at h
          refine lv_aload_n hx hb dX3_fall_32 rfl (lv_at hl 0 rfl) ?_
          refine lv_iload_n hx hb dX3_fall_33 rfl (lv_at hl 2 rfl) ?_
          obtain ⟨v34, e34, h⟩ := bd1_some h
          refine x_vi (rest := []) (ws' := (wX3 cI ad size need lifted licked morning tally kinds places lengths downs covers)) hc hG (cc_X3_isLifted ad size need lifted licked morning tally kinds places lengths downs covers x2 v34 e34) [0, 1, 2, 3, 4, 5] [] [0, 1, 2, 3, 4, 5] rfl rfl rfl 0 rfl rfl lX3_86 ⟨rfl, rfl, by decide, by decide⟩ rfl hl.1 (Nat.le_of_ble_eq_true rfl) rfl dX3_fall_34 (fun H locs hG => ?_)
          refine lv_if_ne (tgt := 91) hx hb dX3_fall_37 (by decide) (fun c37 => ?_) (fun c37 => ?_)
          · rw [if_neg c37] at h
            exact hj_91 _ _ _ _ h _ _ _ (lv_sub hl [0, 1, 2] rfl) hG
          · rw [if_pos c37] at h
            refine lv_iconst (v := 5) hx hb dX3_fall_40 (by decide) ?_
            refine lv_aload_n hx hb dX3_fall_41 rfl (lv_at hl 0 rfl) ?_
            refine x_get hc hG 0 rfl iX3 1 lX3_15 rfl dX3_fall_42 ?_
            refine lv_iload_n hx hb dX3_fall_45 rfl (lv_at hl 2 rfl) ?_
            obtain ⟨v46, e46, h⟩ := bd1_some h
            refine x_ald hc hG 2 rfl e46 dX3_fall_46 ?_
            refine lv_imul hx hb dX3_fall_47 ?_
            refine lv_aload_n hx hb dX3_fall_48 rfl (lv_at hl 0 rfl) ?_
            refine x_get hc hG 0 rfl iX3 2 lX3_18 rfl dX3_fall_49 ?_
            refine lv_iload_n hx hb dX3_fall_52 rfl (lv_at hl 2 rfl) ?_
            obtain ⟨v53, e53, h⟩ := bd1_some h
            refine x_ald hc hG 3 rfl e53 dX3_fall_53 ?_
            refine lv_iadd hx hb dX3_fall_54 ?_
            refine lv_aload_n hx hb dX3_fall_55 rfl (lv_at hl 0 rfl) ?_
            refine x_get hc hG 0 rfl iX3 9 lX3_40 rfl dX3_fall_56 ?_
            refine lv_iadd hx hb dX3_fall_59 ?_
            refine lv_bipush (v := 16) hx hb dX3_fall_60 (by decide) ?_
            refine lv_irem hx hb dX3_fall_62 (by decide) ?_
            refine lv_istore_n (lv' := [(3, .int ((((5 * v46) + v53) + morning) - (((5 * v46) + v53) + morning) / 16 * 16)), (0, .ref (ad 0)), (1, .int x1), (2, .int x2)]) hx hb dX3_fall_63 rfl hl (by decide) rfl (fun ls hl => ?_)
            refine lv_aload_n hx hb dX3_fall_64 rfl (lv_at hl 1 rfl) ?_
            refine lv_iload_n hx hb dX3_fall_65 rfl (lv_at hl 3 rfl) ?_
            refine lv_iload_n hx hb dX3_fall_66 rfl (lv_at hl 0 rfl) ?_
            refine lv_iload_n hx hb dX3_fall_67 rfl (lv_at hl 2 rfl) ?_
            refine lv_if_eq (tgt := 82) hx hb dX3_fall_68 (by decide) (fun c68 => ?_) (fun c68 => ?_)
            · rw [if_pos c68] at h
              refine lv_aload_n hx hb dX3_fall_82 rfl (lv_at hl 1 rfl) ?_
              refine x_get hc hG 0 rfl iX3 3 lX3_21 rfl dX3_fall_83 ?_
              refine lv_iload_n hx hb dX3_fall_86 rfl (lv_at hl 3 rfl) ?_
              obtain ⟨v87, e87, h⟩ := bd1_some h
              refine x_ald hc hG 4 rfl e87 dX3_fall_87 ?_
              exact hj_88 _ _ _ _ _ _ _ h _ _ _ (lv_sub hl [1, 2, 3] rfl) hG
            · rw [if_neg c68] at h
              refine lv_iconst (v := 1) hx hb dX3_fall_71 (by decide) ?_
              refine lv_aload_n hx hb dX3_fall_72 rfl (lv_at hl 1 rfl) ?_
              refine x_get hc hG 0 rfl iX3 3 lX3_21 rfl dX3_fall_73 ?_
              refine lv_iload_n hx hb dX3_fall_76 rfl (lv_at hl 3 rfl) ?_
              obtain ⟨v77, e77, h⟩ := bd1_some h
              refine x_ald hc hG 4 rfl e77 dX3_fall_77 ?_
              refine lv_isub hx hb dX3_fall_78 ?_
              refine lv_goto (tgt := 88) hx hb dX3_fall_79 (by decide) ?_
              exact hj_88 _ _ _ _ _ _ _ h _ _ _ (lv_sub hl [1, 2, 3] rfl) hG
  have hj_15 : ∀ (morning : Int32) (tally : Int32) (places : Nat → Int32) (downs : Nat → Int32) (covers : Nat → Int32) (k0 : Int32) , fX3_fall_j15 size need lifted licked morning tally kinds places lengths downs covers k0 = some (morning', tally', places', downs', covers') → ∀ (ls : Array Slot) (H : Heap) (locs : List Loc), lv_has ls 4 [(0, .ref (ad 0))] → St D A s (wX3 cI ad size need lifted licked morning tally kinds places lengths downs covers) H locs → W p l e rmX3_fall s m AV below meth c H locs 0 0 Q (F0 m 15 ls [.int k0]) := by
    intro morning tally places downs covers k0 h ls H locs hl hG
    unfold fX3_fall_j15 at h
    refine lv_istore_n (lv' := [(1, .int k0), (0, .ref (ad 0))]) hx hb dX3_fall_15 rfl hl (by decide) rfl (fun ls hl => ?_)
    refine lv_iconst (v := 0) hx hb dX3_fall_16 (by decide) ?_
    refine lv_istore_n (lv' := [(2, .int 0), (1, .int k0), (0, .ref (ad 0))]) hx hb dX3_fall_17 rfl hl (by decide) rfl (fun ls hl => ?_)
    obtain ⟨places_L18, downs_L18, covers_L18, e18, h⟩ := bd3_some h
    refine hL_18 _ _ _ _ _ _ (fun ls H locs hl hG => ?_) _ _ _ _ _ e18 _ _ _ (lv_sub hl [2, 1, 0] rfl) hG
    refine lv_aload_n hx hb dX3_fall_97 rfl (lv_at hl 0 rfl) ?_
    refine lv_dup hx hb dX3_fall_98 rfl ?_
    refine x_get hc hG 0 rfl iX3 10 lX3_43 rfl dX3_fall_99 ?_
    refine lv_aload_n hx hb dX3_fall_102 rfl (lv_at hl 0 rfl) ?_
    obtain ⟨v103, e103, h⟩ := bd1_some h
    refine x_vi (rest := [.int tally, .ref (ad 0)]) (ws' := (wX3 cI ad size need lifted licked morning tally kinds places_L18 lengths downs_L18 covers_L18)) hc hG (cc_X3_linesNow ad size need lifted licked morning tally kinds places_L18 lengths downs_L18 covers_L18 v103 e103) [0, 1, 2, 3, 4, 5] [] [0, 1, 2, 3, 4, 5] rfl rfl rfl 0 rfl rfl lX3_98 ⟨rfl, rfl, by decide, by decide⟩ rfl hl.1 (Nat.le_of_ble_eq_true rfl) rfl dX3_fall_103 (fun H locs hG => ?_)
    refine x_si0 (rest := [.int tally, .ref (ad 0)]) hc hG (cJ_bitc v103) lX3_69 ⟨rfl, rfl, by decide, by decide⟩ rfl hl.1 (Nat.le_of_ble_eq_true rfl) rfl dX3_fall_106 (fun H locs hG => ?_)
    refine lv_iadd hx hb dX3_fall_109 ?_
    refine x_put (ws' := (wX3 cI ad size need lifted licked morning (tally + (bitc v103)) kinds places_L18 lengths downs_L18 covers_L18)) hc hG 0 rfl iX3 tyX3 tyX3_ok nmX3 10 lX3_43 rfl rfl rfl (Nat.le_of_ble_eq_true rfl) rfl dX3_fall_110 (fun H locs hG => ?_)
    refine lv_aload_n hx hb dX3_fall_113 rfl (lv_at hl 0 rfl) ?_
    refine lv_dup hx hb dX3_fall_114 rfl ?_
    refine x_get hc hG 0 rfl iX3 9 lX3_40 rfl dX3_fall_115 ?_
    refine lv_iconst (v := 1) hx hb dX3_fall_118 (by decide) ?_
    refine lv_iadd hx hb dX3_fall_119 ?_
    refine x_put (ws' := (wX3 cI ad size need lifted licked (morning + 1) (tally + (bitc v103)) kinds places_L18 lengths downs_L18 covers_L18)) hc hG 0 rfl iX3 tyX3 tyX3_ok nmX3 9 lX3_40 rfl rfl rfl (Nat.le_of_ble_eq_true rfl) rfl dX3_fall_120 (fun H locs hG => ?_)
    cases h
    exact hret _ _ _ _ hG dX3_fall_123
  unfold fX3_fall at h
  refine lv_aload_n hx hb dX3_fall_0 rfl (lv_at hl 0 rfl) ?_
  refine x_get hc hG 0 rfl iX3 9 lX3_40 rfl dX3_fall_1 ?_
  refine lv_iconst (v := 3) hx hb dX3_fall_4 (by decide) ?_
  refine lv_irem hx hb dX3_fall_5 (by decide) ?_
  refine lv_iconst (v := 2) hx hb dX3_fall_6 (by decide) ?_
  refine lv_icmp_ne (tgt := 14) hx hb dX3_fall_7 (by decide) (fun c7 => ?_) (fun c7 => ?_)
  · rw [if_neg c7] at h
    refine lv_iconst (v := 0) hx hb dX3_fall_14 (by decide) ?_
    exact hj_15 _ _ _ _ _ _ h _ _ _ (lv_sub hl [0] rfl) hG
  · rw [if_pos c7] at h
    refine lv_iconst (v := 1) hx hb dX3_fall_10 (by decide) ?_
    refine lv_goto (tgt := 15) hx hb dX3_fall_11 (by decide) ?_
    exact hj_15 _ _ _ _ _ _ h _ _ _ (lv_sub hl [0] rfl) hG
set_option maxRecDepth 100000 in
set_option maxHeartbeats 4000000 in
theorem cc_X3_fallTimes {l : Launch} {D : va_G} {cI : ClassId} {tL : Nat} (ad : Nat → Nat) (size : Int32) (need : Int32) (lifted : Int32) (licked : Int32) (morning : Int32) (tally : Int32) (kinds : Nat → Int32) (places : Nat → Int32) (lengths : Nat → Int32) (downs : Nat → Int32) (covers : Nat → Int32) (x1 : Int32) (morning' : Int32) (tally' : Int32) (places' : Nat → Int32) (downs' : Nat → Int32) (covers' : Nat → Int32) (h : fX3_fallTimes size need lifted licked morning tally kinds places lengths downs covers x1 = some (morning', tally', places', downs', covers')) : Cv l D cI tL yX3_fallTimes cX3_fallTimes 3 rmX3_fallTimes (wX3 cI ad size need lifted licked morning tally kinds places lengths downs covers) [.ref (ad 0), .int x1] (wX3 cI ad size need lifted licked morning' tally' kinds places' lengths downs' covers') := by
  refine Cv_of (own := RX3) (by decide) (Nat.le_of_ble_eq_true rfl) rfl ?_
  intro p e s m below meth c Q A AV hc hret ls hl hG
  obtain ⟨hx, hb, hml, hown, hts, hK, hA, hz⟩ := id hc
  have hl : lv_has ls 3 [(0, .ref (ad 0)), (1, .int x1)] := hl
  have hL_2 : ∀ (x1 : Int32) (morning_o : Int32) (tally_o : Int32) (places_o : Nat → Int32) (downs_o : Nat → Int32) (covers_o : Nat → Int32), (∀ (ls : Array Slot) (H : Heap) (locs : List Loc), lv_has ls 3 [(0, .ref (ad 0))] → St D A s (wX3 cI ad size need lifted licked morning_o tally_o kinds places_o lengths downs_o covers_o) H locs → W p l e rmX3_fallTimes s m AV below meth c H locs 0 0 Q (F0 m 17 ls [])) → ∀ (n : Nat) (morning : Int32) (tally : Int32) (places : Nat → Int32) (downs : Nat → Int32) (covers : Nat → Int32) (x2 : Int32), fX3_fallTimes_L2 size need lifted licked kinds lengths x1 n morning tally places downs covers x2 = some (morning_o, tally_o, places_o, downs_o, covers_o) → ∀ (ls : Array Slot) (H : Heap) (locs : List Loc), lv_has ls 3 [(0, .ref (ad 0)), (1, .int x1), (2, .int x2)] → St D A s (wX3 cI ad size need lifted licked morning tally kinds places lengths downs covers) H locs → W p l e rmX3_fallTimes s m AV below meth c H locs 0 0 Q (F0 m 2 ls []) := by
    intro x1 morning_o tally_o places_o downs_o covers_o KE n
    induction n with
    | zero =>
      intro morning tally places downs covers x2 h
      exact nomatch (show none = some _ from h)
    | succ n ih =>
      intro morning tally places downs covers x2 h ls H locs hl hG
      have h : fX3_fallTimes_B2 size need lifted licked kinds lengths x1 (fX3_fallTimes_L2 size need lifted licked kinds lengths x1 n) morning tally places downs covers x2 = some (morning_o, tally_o, places_o, downs_o, covers_o) := h
      unfold fX3_fallTimes_B2 at h
      refine lv_iload_n hx hb dX3_fallTimes_2 rfl (lv_at hl 2 rfl) ?_
      refine lv_iload_n hx hb dX3_fallTimes_3 rfl (lv_at hl 1 rfl) ?_
      refine lv_icmp_ge (tgt := 17) hx hb dX3_fallTimes_4 (by decide) (fun c4 => ?_) (fun c4 => ?_)
      · rw [if_pos c4] at h
        cases h
        exact KE _ _ _ (lv_sub hl [0] rfl) hG
      · rw [if_neg c4] at h
        refine lv_aload_n hx hb dX3_fallTimes_7 rfl (lv_at hl 0 rfl) ?_
        obtain ⟨morning_8, tally_8, places_8, downs_8, covers_8, e8, h⟩ := bd5_some h
        refine x_vv (rest := []) (ws' := (wX3 cI ad size need lifted licked morning_8 tally_8 kinds places_8 lengths downs_8 covers_8)) hc hG (cc_X3_fall ad size need lifted licked morning tally kinds places lengths downs covers morning_8 tally_8 places_8 downs_8 covers_8 e8) [0, 1, 2, 3, 4, 5] [] [0, 1, 2, 3, 4, 5] rfl rfl rfl 0 rfl rfl lX3_102 ⟨rfl, rfl, by decide, by decide⟩ rfl hl.1 (Nat.le_of_ble_eq_true rfl) rfl dX3_fallTimes_8 (fun H locs hG => ?_)
        refine lv_iinc (v := (x2 + 1)) (lv' := [(2, .int (x2 + 1)), (0, .ref (ad 0)), (1, .int x1)]) hx hb dX3_fallTimes_11 hl (k := 2) rfl rfl (by decide) rfl (fun ls hl => ?_)
        refine lv_goto (tgt := 2) hx hb dX3_fallTimes_14 (by decide) ?_
        exact ih _ _ _ _ _ _ h _ _ _ (lv_sub hl [1, 2, 0] rfl) hG
  unfold fX3_fallTimes at h
  refine lv_iconst (v := 0) hx hb dX3_fallTimes_0 (by decide) ?_
  refine lv_istore_n (lv' := [(2, .int 0), (0, .ref (ad 0)), (1, .int x1)]) hx hb dX3_fallTimes_1 rfl hl (by decide) rfl (fun ls hl => ?_)
  obtain ⟨morning_L2, tally_L2, places_L2, downs_L2, covers_L2, e2, h⟩ := bd5_some h
  refine hL_2 _ _ _ _ _ _ (fun ls H locs hl hG => ?_) _ _ _ _ _ _ _ e2 _ _ _ (lv_sub hl [1, 2, 0] rfl) hG
  cases h
  exact hret _ _ _ _ hG dX3_fallTimes_17
set_option maxRecDepth 100000 in
set_option maxHeartbeats 4000000 in
theorem cc_X3_canLick {l : Launch} {D : va_G} {cI : ClassId} {tL : Nat} (ad : Nat → Nat) (size : Int32) (need : Int32) (lifted : Int32) (licked : Int32) (morning : Int32) (tally : Int32) (kinds : Nat → Int32) (places : Nat → Int32) (lengths : Nat → Int32) (downs : Nat → Int32) (covers : Nat → Int32) (x1 : Int32) (r' : Int32) (h : fX3_canLick licked x1 = some r') : Ci l D cI tL yX3_canLick cX3_canLick 2 .boolean rmX3_canLick (wX3 cI ad size need lifted licked morning tally kinds places lengths downs covers) [.ref (ad 0), .int x1] r' (wX3 cI ad size need lifted licked morning tally kinds places lengths downs covers) := by
  refine Ci_of (own := RX3) (by decide) (Nat.le_of_ble_eq_true rfl) rfl ?_
  intro p e s m below meth c Q A AV hc hret ls hl hG
  obtain ⟨hx, hb, hml, hown, hts, hK, hA, hz⟩ := id hc
  have hl : lv_has ls 2 [(0, .ref (ad 0)), (1, .int x1)] := hl
  have hj_24 : fX3_canLick_j24 = some r' → ∀ (ls : Array Slot) (H : Heap) (locs : List Loc), lv_has ls 2 [(0, .ref (ad 0))] → St D A s (wX3 cI ad size need lifted licked morning tally kinds places lengths downs covers) H locs → W p l e rmX3_canLick s m AV below meth c H locs 0 0 Q (F0 m 24 ls []) := by
    intro  h ls H locs hl hG
    unfold fX3_canLick_j24 at h
    refine lv_iconst (v := 1) hx hb dX3_canLick_24 (by decide) ?_
    refine lv_goto (tgt := 29) hx hb dX3_canLick_25 (by decide) ?_
    cases h
    exact hret _ _ _ _ hG dX3_canLick_29 rfl
  unfold fX3_canLick at h
  refine lv_aload_n hx hb dX3_canLick_0 rfl (lv_at hl 0 rfl) ?_
  refine x_get hc hG 0 rfl iX3 8 lX3_37 rfl dX3_canLick_1 ?_
  refine lv_iload_n hx hb dX3_canLick_4 rfl (lv_at hl 1 rfl) ?_
  obtain ⟨v5, e5, h⟩ := bd1_some h
  refine x_siN0 (rest := []) hc hG (cc_X4_bit licked x1 v5 e5) lX3_54 ⟨rfl, rfl, by decide, by decide⟩ rfl hl.1 (Nat.le_of_ble_eq_true rfl) rfl dX3_canLick_5 (fun H locs hG => ?_)
  refine lv_iconst (v := 1) hx hb dX3_canLick_8 (by decide) ?_
  refine lv_icmp_eq (tgt := 24) hx hb dX3_canLick_9 (by decide) (fun c9 => ?_) (fun c9 => ?_)
  · rw [if_pos c9] at h
    exact hj_24  h _ _ _ (lv_sub hl [0] rfl) hG
  · rw [if_neg c9] at h
    refine lv_aload_n hx hb dX3_canLick_12 rfl (lv_at hl 0 rfl) ?_
    refine x_get hc hG 0 rfl iX3 8 lX3_37 rfl dX3_canLick_13 ?_
    refine x_si0 (rest := []) hc hG (cJ_bitc licked) lX3_69 ⟨rfl, rfl, by decide, by decide⟩ rfl hl.1 (Nat.le_of_ble_eq_true rfl) rfl dX3_canLick_16 (fun H locs hG => ?_)
    refine lv_bipush (v := 8) hx hb dX3_canLick_19 (by decide) ?_
    refine lv_icmp_ge (tgt := 28) hx hb dX3_canLick_21 (by decide) (fun c21 => ?_) (fun c21 => ?_)
    · rw [if_pos c21] at h
      refine lv_iconst (v := 0) hx hb dX3_canLick_28 (by decide) ?_
      cases h
      exact hret _ _ _ _ hG dX3_canLick_29 rfl
    · rw [if_neg c21] at h
      exact hj_24  h _ _ _ (lv_sub hl [0] rfl) hG
set_option maxRecDepth 100000 in
set_option maxHeartbeats 4000000 in
theorem cc_X3_perform {l : Launch} {D : va_G} {cI : ClassId} {tL : Nat} (ad : Nat → Nat) (size : Int32) (need : Int32) (lifted : Int32) (licked : Int32) (morning : Int32) (tally : Int32) (kinds : Nat → Int32) (places : Nat → Int32) (lengths : Nat → Int32) (downs : Nat → Int32) (covers : Nat → Int32) (x1 : Int32) (x2 : Int32) (x3 : Int32) (lifted' : Int32) (licked' : Int32) (morning' : Int32) (tally' : Int32) (places' : Nat → Int32) (downs' : Nat → Int32) (covers' : Nat → Int32) (h : fX3_perform size need lifted licked morning tally kinds places lengths downs covers x1 x2 x3 = some (lifted', licked', morning', tally', places', downs', covers')) : Cv l D cI tL yX3_perform cX3_perform 4 rmX3_perform (wX3 cI ad size need lifted licked morning tally kinds places lengths downs covers) [.ref (ad 0), .int x1, .int x2, .int x3] (wX3 cI ad size need lifted' licked' morning' tally' kinds places' lengths downs' covers') := by
  refine Cv_of (own := RX3) (by decide) (Nat.le_of_ble_eq_true rfl) rfl ?_
  intro p e s m below meth c Q A AV hc hret ls hl hG
  obtain ⟨hx, hb, hml, hown, hts, hK, hA, hz⟩ := id hc
  have hl : lv_has ls 4 [(0, .ref (ad 0)), (1, .int x1), (2, .int x2), (3, .int x3)] := hl
  have hj_112 : ∀ (lifted : Int32) (morning : Int32) (tally : Int32) (places : Nat → Int32) (downs : Nat → Int32) (covers : Nat → Int32) (k1 : Int32) (k2 : Int32) (licked : Int32), fX3_perform_j112 lifted morning tally places downs covers k1 k2 = some (lifted', licked', morning', tally', places', downs', covers') → ∀ (ls : Array Slot) (H : Heap) (locs : List Loc), lv_has ls 4 [(0, .ref (ad 0))] → St D A s (wX3 cI ad size need lifted licked morning tally kinds places lengths downs covers) H locs → W p l e rmX3_perform s m AV below meth c H locs 0 0 Q (F0 m 112 ls [.int k2, .int k1, .ref (ad 0)]) := by
    intro lifted morning tally places downs covers k1 k2 licked h ls H locs hl hG
    unfold fX3_perform_j112 at h
    refine lv_ixor hx hb dX3_perform_112 ?_
    refine x_put (ws' := (wX3 cI ad size need lifted (k1 ^^^ k2) morning tally kinds places lengths downs covers)) hc hG 0 rfl iX3 tyX3 tyX3_ok nmX3 8 lX3_37 rfl rfl rfl (Nat.le_of_ble_eq_true rfl) rfl dX3_perform_113 (fun H locs hG => ?_)
    refine lv_goto (tgt := 119) hx hb dX3_perform_116 (by decide) ?_
    cases h
    exact hret _ _ _ _ hG dX3_perform_119
  unfold fX3_perform at h
  refine lv_iload_n hx hb dX3_perform_0 rfl (lv_at hl 1 rfl) ?_
  by_cases c1_0 : x1 = 0
  · rw [if_pos c1_0] at h
    refine x_swK (tgt := 36) hx hb dX3_perform_1 c1_0 (by decide) (by decide) rfl (by decide) ?_
    refine lv_aload_n hx hb dX3_perform_36 rfl (lv_at hl 0 rfl) ?_
    obtain ⟨morning_37, tally_37, places_37, downs_37, covers_37, e37, h⟩ := bd5_some h
    refine x_vv (rest := []) (ws' := (wX3 cI ad size need lifted licked morning_37 tally_37 kinds places_37 lengths downs_37 covers_37)) hc hG (cc_X3_fall ad size need lifted licked morning tally kinds places lengths downs covers morning_37 tally_37 places_37 downs_37 covers_37 e37) [0, 1, 2, 3, 4, 5] [] [0, 1, 2, 3, 4, 5] rfl rfl rfl 0 rfl rfl lX3_102 ⟨rfl, rfl, by decide, by decide⟩ rfl hl.1 (Nat.le_of_ble_eq_true rfl) rfl dX3_perform_37 (fun H locs hG => ?_)
    refine lv_goto (tgt := 119) hx hb dX3_perform_40 (by decide) ?_
    cases h
    exact hret _ _ _ _ hG dX3_perform_119
  rw [if_neg c1_0] at h
  by_cases c1_1 : x1 = 1
  · rw [if_pos c1_1] at h
    refine x_swK (tgt := 43) hx hb dX3_perform_1 c1_1 (by decide) (by decide) rfl (by decide) ?_
    refine lv_aload_n hx hb dX3_perform_43 rfl (lv_at hl 0 rfl) ?_
    refine lv_iload_n hx hb dX3_perform_44 rfl (lv_at hl 2 rfl) ?_
    refine lv_iload_n hx hb dX3_perform_45 rfl (lv_at hl 3 rfl) ?_
    refine lv_aload_n hx hb dX3_perform_46 rfl (lv_at hl 0 rfl) ?_
    refine lv_iload_n hx hb dX3_perform_47 rfl (lv_at hl 2 rfl) ?_
    obtain ⟨v48, e48, h⟩ := bd1_some h
    refine x_vi (rest := [.int x3, .int x2, .ref (ad 0)]) (ws' := (wX3 cI ad size need lifted licked morning tally kinds places lengths downs covers)) hc hG (cc_X3_downOf ad size need lifted licked morning tally kinds places lengths downs covers x2 v48 e48) [0, 1, 2, 3, 4, 5] [] [0, 1, 2, 3, 4, 5] rfl rfl rfl 0 rfl rfl lX3_105 ⟨rfl, rfl, by decide, by decide⟩ rfl hl.1 (Nat.le_of_ble_eq_true rfl) rfl dX3_perform_48 (fun H locs hG => ?_)
    obtain ⟨places_51, downs_51, covers_51, e51, h⟩ := bd3_some h
    refine x_vv (rest := []) (ws' := (wX3 cI ad size need lifted licked morning tally kinds places_51 lengths downs_51 covers_51)) hc hG (cc_X3_settle ad size need lifted licked morning tally kinds places lengths downs covers x2 x3 v48 places_51 downs_51 covers_51 e51) [0, 1, 2, 3, 4, 5] [] [0, 1, 2, 3, 4, 5] rfl rfl rfl 0 rfl rfl lX3_46 ⟨rfl, rfl, by decide, by decide⟩ rfl hl.1 (Nat.le_of_ble_eq_true rfl) rfl dX3_perform_51 (fun H locs hG => ?_)
    refine lv_goto (tgt := 119) hx hb dX3_perform_54 (by decide) ?_
    cases h
    exact hret _ _ _ _ hG dX3_perform_119
  rw [if_neg c1_1] at h
  by_cases c1_2 : x1 = 2
  · rw [if_pos c1_2] at h
    refine x_swK (tgt := 57) hx hb dX3_perform_1 c1_2 (by decide) (by decide) rfl (by decide) ?_
    refine lv_aload_n hx hb dX3_perform_57 rfl (lv_at hl 0 rfl) ?_
    refine lv_iload_n hx hb dX3_perform_58 rfl (lv_at hl 2 rfl) ?_
    refine lv_aload_n hx hb dX3_perform_59 rfl (lv_at hl 0 rfl) ?_
    refine lv_iload_n hx hb dX3_perform_60 rfl (lv_at hl 2 rfl) ?_
    obtain ⟨v61, e61, h⟩ := bd1_some h
    refine x_vi (rest := [.int x2, .ref (ad 0)]) (ws' := (wX3 cI ad size need lifted licked morning tally kinds places lengths downs covers)) hc hG (cc_X3_placeOf ad size need lifted licked morning tally kinds places lengths downs covers x2 v61 e61) [0, 1, 2, 3, 4, 5] [] [0, 1, 2, 3, 4, 5] rfl rfl rfl 0 rfl rfl lX3_108 ⟨rfl, rfl, by decide, by decide⟩ rfl hl.1 (Nat.le_of_ble_eq_true rfl) rfl dX3_perform_61 (fun H locs hG => ?_)
    refine lv_iconst (v := 1) hx hb dX3_perform_64 (by decide) ?_
    refine lv_aload_n hx hb dX3_perform_65 rfl (lv_at hl 0 rfl) ?_
    refine lv_iload_n hx hb dX3_perform_66 rfl (lv_at hl 2 rfl) ?_
    obtain ⟨v67, e67, h⟩ := bd1_some h
    refine x_vi (rest := [.int 1, .int v61, .int x2, .ref (ad 0)]) (ws' := (wX3 cI ad size need lifted licked morning tally kinds places lengths downs covers)) hc hG (cc_X3_downOf ad size need lifted licked morning tally kinds places lengths downs covers x2 v67 e67) [0, 1, 2, 3, 4, 5] [] [0, 1, 2, 3, 4, 5] rfl rfl rfl 0 rfl rfl lX3_105 ⟨rfl, rfl, by decide, by decide⟩ rfl hl.1 (Nat.le_of_ble_eq_true rfl) rfl dX3_perform_67 (fun H locs hG => ?_)
    refine lv_isub hx hb dX3_perform_70 ?_
    obtain ⟨places_71, downs_71, covers_71, e71, h⟩ := bd3_some h
    refine x_vv (rest := []) (ws' := (wX3 cI ad size need lifted licked morning tally kinds places_71 lengths downs_71 covers_71)) hc hG (cc_X3_settle ad size need lifted licked morning tally kinds places lengths downs covers x2 v61 (1 - v67) places_71 downs_71 covers_71 e71) [0, 1, 2, 3, 4, 5] [] [0, 1, 2, 3, 4, 5] rfl rfl rfl 0 rfl rfl lX3_46 ⟨rfl, rfl, by decide, by decide⟩ rfl hl.1 (Nat.le_of_ble_eq_true rfl) rfl dX3_perform_71 (fun H locs hG => ?_)
    refine lv_goto (tgt := 119) hx hb dX3_perform_74 (by decide) ?_
    cases h
    exact hret _ _ _ _ hG dX3_perform_119
  rw [if_neg c1_2] at h
  by_cases c1_3 : x1 = 3
  · rw [if_pos c1_3] at h
    refine x_swK (tgt := 77) hx hb dX3_perform_1 c1_3 (by decide) (by decide) rfl (by decide) ?_
    refine lv_aload_n hx hb dX3_perform_77 rfl (lv_at hl 0 rfl) ?_
    refine lv_dup hx hb dX3_perform_78 rfl ?_
    refine x_get hc hG 0 rfl iX3 7 lX3_34 rfl dX3_perform_79 ?_
    refine lv_iconst (v := 1) hx hb dX3_perform_82 (by decide) ?_
    refine lv_iload_n hx hb dX3_perform_83 rfl (lv_at hl 2 rfl) ?_
    refine lv_ishl hx hb dX3_perform_84 ?_
    refine lv_ixor hx hb dX3_perform_85 ?_
    refine x_put (ws' := (wX3 cI ad size need (lifted ^^^ ((1 : Int32) <<< (x2 &&& 31))) licked morning tally kinds places lengths downs covers)) hc hG 0 rfl iX3 tyX3 tyX3_ok nmX3 7 lX3_34 rfl rfl rfl (Nat.le_of_ble_eq_true rfl) rfl dX3_perform_86 (fun H locs hG => ?_)
    refine lv_goto (tgt := 119) hx hb dX3_perform_89 (by decide) ?_
    cases h
    exact hret _ _ _ _ hG dX3_perform_119
  rw [if_neg c1_3] at h
  by_cases c1_4 : x1 = 4
  · rw [if_pos c1_4] at h
    refine x_swK (tgt := 92) hx hb dX3_perform_1 c1_4 (by decide) (by decide) rfl (by decide) ?_
    refine lv_aload_n hx hb dX3_perform_92 rfl (lv_at hl 0 rfl) ?_
    refine lv_dup hx hb dX3_perform_93 rfl ?_
    refine x_get hc hG 0 rfl iX3 8 lX3_37 rfl dX3_perform_94 ?_
    refine lv_aload_n hx hb dX3_perform_97 rfl (lv_at hl 0 rfl) ?_
    refine lv_iload_n hx hb dX3_perform_98 rfl (lv_at hl 3 rfl) ?_
    obtain ⟨v99, e99, h⟩ := bd1_some h
    refine x_vi (rest := [.int licked, .ref (ad 0)]) (ws' := (wX3 cI ad size need lifted licked morning tally kinds places lengths downs covers)) hc hG (cc_X3_canLick ad size need lifted licked morning tally kinds places lengths downs covers x3 v99 e99) [0, 1, 2, 3, 4, 5] [] [0, 1, 2, 3, 4, 5] rfl rfl rfl 0 rfl rfl lX3_111 ⟨rfl, rfl, by decide, by decide⟩ rfl hl.1 (Nat.le_of_ble_eq_true rfl) rfl dX3_perform_99 (fun H locs hG => ?_)
    refine lv_if_eq (tgt := 111) hx hb dX3_perform_102 (by decide) (fun c102 => ?_) (fun c102 => ?_)
    · rw [if_pos c102] at h
      refine lv_iconst (v := 0) hx hb dX3_perform_111 (by decide) ?_
      exact hj_112 _ _ _ _ _ _ _ _ _ h _ _ _ (lv_sub hl [0] rfl) hG
    · rw [if_neg c102] at h
      refine lv_iconst (v := 1) hx hb dX3_perform_105 (by decide) ?_
      refine lv_iload_n hx hb dX3_perform_106 rfl (lv_at hl 3 rfl) ?_
      refine lv_ishl hx hb dX3_perform_107 ?_
      refine lv_goto (tgt := 112) hx hb dX3_perform_108 (by decide) ?_
      exact hj_112 _ _ _ _ _ _ _ _ _ h _ _ _ (lv_sub hl [0] rfl) hG
  rw [if_neg c1_4] at h
  refine x_swD (tgt := 119) hx hb dX3_perform_1 [0, 1, 2, 3, 4] (by decide) (List.forall_mem_cons.mpr ⟨lv_neT c1_0 (by decide), (List.forall_mem_cons.mpr ⟨lv_neT c1_1 (by decide), (List.forall_mem_cons.mpr ⟨lv_neT c1_2 (by decide), (List.forall_mem_cons.mpr ⟨lv_neT c1_3 (by decide), (List.forall_mem_cons.mpr ⟨lv_neT c1_4 (by decide), (List.forall_mem_nil _)⟩)⟩)⟩)⟩)⟩) (by decide) ?_
  cases h
  exact hret _ _ _ _ hG dX3_perform_119
