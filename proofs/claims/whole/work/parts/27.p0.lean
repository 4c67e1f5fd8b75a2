/-! ===== printed by wip/whole/gen.py: contracts of PeelReadings$Reader ===== -/
set_option maxRecDepth 100000 in
set_option maxHeartbeats 4000000 in
theorem cc_X0_sign {l : Launch} {D : va_G} {cI : ClassId} {tL : Nat} (ad : Nat → Nat) (nI : Nat) (nS : Nat) (text : Int32) (place : Int32) (width : Int32) (items : Nat → Int32) (sizes : Nat → Int32) (size : Int32) (need : Int32) (lifted : Int32) (licked : Int32) (morning : Int32) (tally : Int32) (kinds : Nat → Int32) (places : Nat → Int32) (lengths : Nat → Int32) (downs : Nat → Int32) (covers : Nat → Int32) (r' : Int32) (h : fX0_sign nI nS text place width items sizes = some r') : Ci l D cI tL yX0_sign cX0_sign 1 .int rmX0_sign (wX0 cI ad nI nS text place width items sizes size need lifted licked morning tally kinds places lengths downs covers) [.ref (ad 0)] r' (wX0 cI ad nI nS text place width items sizes size need lifted licked morning tally kinds places lengths downs covers) := by
  refine Ci_of (own := RX0) (by decide) (Nat.le_of_ble_eq_true rfl) rfl ?_
  intro p e s m below meth c Q A AV hc hret ls hl hG
  obtain ⟨hx, hb, hml, hown, hts, hK, hA, hz⟩ := id hc
  have hl : lv_has ls 1 [(0, .ref (ad 0))] := hl
  unfold fX0_sign at h
  refine lv_aload_n hx hb dX0_sign_0 rfl (lv_at hl 0 rfl) ?_
  refine x_get hc hG 0 rfl iX0 0 lX0_9 rfl dX0_sign_1 ?_
  refine lv_aload_n hx hb dX0_sign_4 rfl (lv_at hl 0 rfl) ?_
  refine x_get hc hG 0 rfl iX0 2 lX0_19 rfl dX0_sign_5 ?_
  refine lv_aload_n hx hb dX0_sign_8 rfl (lv_at hl 0 rfl) ?_
  refine x_get hc hG 0 rfl iX0 3 lX0_23 rfl dX0_sign_9 ?_
  obtain ⟨v12, e12, h⟩ := bd1_some h
  refine x_vi (rest := []) (ws' := (wX0 cI ad nI nS text place width items sizes size need lifted licked morning tally kinds places lengths downs covers)) hc hG (cc_X2_has (fun k => ad (1 + k)) nI nS width items sizes text place v12 e12) [1, 2, 3] [0, 4, 5, 6, 7, 8, 9] [0, 7, 8, 9, 1, 2, 3, 4, 5, 6] rfl rfl rfl 1 rfl rfl lX0_59 ⟨rfl, rfl, by decide, by decide⟩ rfl hl.1 (Nat.le_of_ble_eq_true rfl) rfl dX0_sign_12 (fun H locs hG => ?_)
  refine lv_if_eq (tgt := 36) hx hb dX0_sign_15 (by decide) (fun c15 => ?_) (fun c15 => ?_)
  · rw [if_pos c15] at h
    refine lv_sipush (v := 1000) hx hb dX0_sign_36 (by decide) ?_
    cases h
    exact hret _ _ _ _ hG dX0_sign_39 rfl
  · rw [if_neg c15] at h
    refine lv_aload_n hx hb dX0_sign_18 rfl (lv_at hl 0 rfl) ?_
    refine x_get hc hG 0 rfl iX0 0 lX0_9 rfl dX0_sign_19 ?_
    refine lv_aload_n hx hb dX0_sign_22 rfl (lv_at hl 0 rfl) ?_
    refine x_get hc hG 0 rfl iX0 2 lX0_19 rfl dX0_sign_23 ?_
    refine lv_aload_n hx hb dX0_sign_26 rfl (lv_at hl 0 rfl) ?_
    refine x_get hc hG 0 rfl iX0 3 lX0_23 rfl dX0_sign_27 ?_
    obtain ⟨v30, e30, h⟩ := bd1_some h
    refine x_vi (rest := []) (ws' := (wX0 cI ad nI nS text place width items sizes size need lifted licked morning tally kinds places lengths downs covers)) hc hG (cc_X2_get (fun k => ad (1 + k)) nI nS width items sizes text place v30 e30) [1, 2, 3] [0, 4, 5, 6, 7, 8, 9] [0, 7, 8, 9, 1, 2, 3, 4, 5, 6] rfl rfl rfl 1 rfl rfl lX0_65 ⟨rfl, rfl, by decide, by decide⟩ rfl hl.1 (Nat.le_of_ble_eq_true rfl) rfl dX0_sign_30 (fun H locs hG => ?_)
    refine lv_goto (tgt := 39) hx hb dX0_sign_33 (by decide) ?_
    cases h
    exact hret _ _ _ _ hG dX0_sign_39 rfl
set_option maxRecDepth 100000 in
set_option maxHeartbeats 4000000 in
theorem cc_X0_skipBlanks {l : Launch} {D : va_G} {cI : ClassId} {tL : Nat} (ad : Nat → Nat) (nI : Nat) (nS : Nat) (text : Int32) (place : Int32) (width : Int32) (items : Nat → Int32) (sizes : Nat → Int32) (size : Int32) (need : Int32) (lifted : Int32) (licked : Int32) (morning : Int32) (tally : Int32) (kinds : Nat → Int32) (places : Nat → Int32) (lengths : Nat → Int32) (downs : Nat → Int32) (covers : Nat → Int32) (place' : Int32) (h : fX0_skipBlanks nI nS text place width items sizes = some place') : Cv l D cI tL yX0_skipBlanks cX0_skipBlanks 2 rmX0_skipBlanks (wX0 cI ad nI nS text place width items sizes size need lifted licked morning tally kinds places lengths downs covers) [.ref (ad 0)] (wX0 cI ad nI nS text place' width items sizes size need lifted licked morning tally kinds places lengths downs covers) := by
  refine Cv_of (own := RX0) (by decide) (Nat.le_of_ble_eq_true rfl) rfl ?_
  intro p e s m below meth c Q A AV hc hret ls hl hG
  obtain ⟨hx, hb, hml, hown, hts, hK, hA, hz⟩ := id hc
  have hl : lv_has ls 2 [(0, .ref (ad 0))] := hl
  have hL_2 : ∀  (place_o : Int32), (∀ (ls : Array Slot) (H : Heap) (locs : List Loc), lv_has ls 2 [(0, .ref (ad 0))] → St D A s (wX0 cI ad nI nS text place_o width items sizes size need lifted licked morning tally kinds places lengths downs covers) H locs → W p l e rmX0_skipBlanks s m AV below meth c H locs 0 0 Q (F0 m 33 ls [])) → ∀ (n : Nat) (place : Int32) (x1 : Int32), fX0_skipBlanks_L2 nI nS text width items sizes n place x1 = some place_o → ∀ (ls : Array Slot) (H : Heap) (locs : List Loc), lv_has ls 2 [(0, .ref (ad 0)), (1, .int x1)] → St D A s (wX0 cI ad nI nS text place width items sizes size need lifted licked morning tally kinds places lengths downs covers) H locs → W p l e rmX0_skipBlanks s m AV below meth c H locs 0 0 Q (F0 m 2 ls []) := by
    intro place_o KE n
    induction n with
    | zero =>
      intro place x1 h
      exact nomatch (show none = some _ from h)
    | succ n ih =>
      intro place x1 h ls H locs hl hG
      have h : fX0_skipBlanks_B2 nI nS text width items sizes (fX0_skipBlanks_L2 nI nS text width items sizes n) place x1 = some place_o := h
      unfold fX0_skipBlanks_B2 at h
      refine lv_iload_n hx hb dX0_skipBlanks_2 rfl (lv_at hl 1 rfl) ?_
      refine lv_bipush (v := 60) hx hb dX0_skipBlanks_3 (by decide) ?_
      refine lv_icmp_ge (tgt := 33) hx hb dX0_skipBlanks_5 (by decide) (fun c5 => ?_) (fun c5 => ?_)
      · rw [if_pos c5] at h
        cases h
        exact KE _ _ _ (lv_sub hl [0] rfl) hG
      · rw [if_neg c5] at h
        refine lv_aload_n hx hb dX0_skipBlanks_8 rfl (lv_at hl 0 rfl) ?_
        obtain ⟨v9, e9, h⟩ := bd1_some h
        refine x_vi (rest := []) (ws' := (wX0 cI ad nI nS text place width items sizes size need lifted licked morning tally kinds places lengths downs covers)) hc hG (cc_X0_sign ad nI nS text place width items sizes size need lifted licked morning tally kinds places lengths downs covers v9 e9) [0, 1, 2, 3, 4, 5, 6, 7, 8, 9] [] [0, 1, 2, 3, 4, 5, 6, 7, 8, 9] rfl rfl rfl 0 rfl rfl lX0_34 ⟨rfl, rfl, by decide, by decide⟩ rfl hl.1 (Nat.le_of_ble_eq_true rfl) rfl dX0_skipBlanks_9 (fun H locs hG => ?_)
        refine lv_bipush (v := 32) hx hb dX0_skipBlanks_12 (by decide) ?_
        refine lv_icmp_ne (tgt := 33) hx hb dX0_skipBlanks_14 (by decide) (fun c14 => ?_) (fun c14 => ?_)
        · rw [if_neg c14] at h
          cases h
          exact KE _ _ _ (lv_sub hl [0] rfl) hG
        · rw [if_pos c14] at h
          refine lv_aload_n hx hb dX0_skipBlanks_17 rfl (lv_at hl 0 rfl) ?_
          refine lv_dup hx hb dX0_skipBlanks_18 rfl ?_
          refine x_get hc hG 0 rfl iX0 3 lX0_23 rfl dX0_skipBlanks_19 ?_
          refine lv_iconst (v := 1) hx hb dX0_skipBlanks_22 (by decide) ?_
          refine lv_iadd hx hb dX0_skipBlanks_23 ?_
          refine x_put (ws' := (wX0 cI ad nI nS text (place + 1) width items sizes size need lifted licked morning tally kinds places lengths downs covers)) hc hG 0 rfl iX0 tyX0 tyX0_ok nmX0 3 lX0_23 rfl rfl rfl (Nat.le_of_ble_eq_true rfl) rfl dX0_skipBlanks_24 (fun H locs hG => ?_)
          refine lv_iinc (v := (x1 + 1)) (lv' := [(1, .int (x1 + 1)), (0, .ref (ad 0))]) hx hb dX0_skipBlanks_27 hl (k := 1) rfl rfl (by decide) rfl (fun ls hl => ?_)
          refine lv_goto (tgt := 2) hx hb dX0_skipBlanks_30 (by decide) ?_
          exact ih _ _ h _ _ _ (lv_sub hl [1, 0] rfl) hG
  unfold fX0_skipBlanks at h
  refine lv_iconst (v := 0) hx hb dX0_skipBlanks_0 (by decide) ?_
  refine lv_istore_n (lv' := [(1, .int 0), (0, .ref (ad 0))]) hx hb dX0_skipBlanks_1 rfl hl (by decide) rfl (fun ls hl => ?_)
  obtain ⟨place_L2, e2, h⟩ := bd1_some h
  refine hL_2 _ (fun ls H locs hl hG => ?_) _ _ _ e2 _ _ _ (lv_sub hl [1, 0] rfl) hG
  cases h
  exact hret _ _ _ _ hG dX0_skipBlanks_33
set_option maxRecDepth 100000 in
set_option maxHeartbeats 4000000 in
theorem cc_X0_figure {l : Launch} {D : va_G} {cI : ClassId} {tL : Nat} (ad : Nat → Nat) (nI : Nat) (nS : Nat) (text : Int32) (place : Int32) (width : Int32) (items : Nat → Int32) (sizes : Nat → Int32) (size : Int32) (need : Int32) (lifted : Int32) (licked : Int32) (morning : Int32) (tally : Int32) (kinds : Nat → Int32) (places : Nat → Int32) (lengths : Nat → Int32) (downs : Nat → Int32) (covers : Nat → Int32) (x1 : Int32) (x2 : Int32) (r' : Int32) (place' : Int32) (h : fX0_figure nI nS text place width items sizes x1 x2 = some (r', place')) : Ci l D cI tL yX0_figure cX0_figure 4 .int rmX0_figure (wX0 cI ad nI nS text place width items sizes size need lifted licked morning tally kinds places lengths downs covers) [.ref (ad 0), .int x1, .int x2] r' (wX0 cI ad nI nS text place' width items sizes size need lifted licked morning tally kinds places lengths downs covers) := by
  refine Ci_of (own := RX0) (by decide) (Nat.le_of_ble_eq_true rfl) rfl ?_
  intro p e s m below meth c Q A AV hc hret ls hl hG
  obtain ⟨hx, hb, hml, hown, hts, hK, hA, hz⟩ := id hc
  have hl : lv_has ls 4 [(0, .ref (ad 0)), (1, .int x1), (2, .int x2)] := hl
  unfold fX0_figure at h
  refine lv_aload_n hx hb dX0_figure_0 rfl (lv_at hl 0 rfl) ?_
  obtain ⟨v1, e1, h⟩ := bd1_some h
  refine x_vi (rest := []) (ws' := (wX0 cI ad nI nS text place width items sizes size need lifted licked morning tally kinds places lengths downs covers)) hc hG (cc_X0_sign ad nI nS text place width items sizes size need lifted licked morning tally kinds places lengths downs covers v1 e1) [0, 1, 2, 3, 4, 5, 6, 7, 8, 9] [] [0, 1, 2, 3, 4, 5, 6, 7, 8, 9] rfl rfl rfl 0 rfl rfl lX0_34 ⟨rfl, rfl, by decide, by decide⟩ rfl hl.1 (Nat.le_of_ble_eq_true rfl) rfl dX0_figure_1 (fun H locs hG => ?_)
  refine lv_bipush (v := 48) hx hb dX0_figure_4 (by decide) ?_
  refine lv_isub hx hb dX0_figure_6 ?_
  refine lv_istore_n (lv' := [(3, .int (v1 - 48)), (0, .ref (ad 0)), (1, .int x1), (2, .int x2)]) hx hb dX0_figure_7 rfl hl (by decide) rfl (fun ls hl => ?_)
  refine lv_iload_n hx hb dX0_figure_8 rfl (lv_at hl 0 rfl) ?_
  refine lv_iload_n hx hb dX0_figure_9 rfl (lv_at hl 2 rfl) ?_
  refine lv_icmp_lt (tgt := 18) hx hb dX0_figure_10 (by decide) (fun c10 => ?_) (fun c10 => ?_)
  · rw [if_pos c10] at h
    refine lv_bipush (v := (-9)) hx hb dX0_figure_18 (by decide) ?_
    cases h
    exact hret _ _ _ _ hG dX0_figure_20 rfl
  · rw [if_neg c10] at h
    refine lv_iload_n hx hb dX0_figure_13 rfl (lv_at hl 0 rfl) ?_
    refine lv_iload_n hx hb dX0_figure_14 rfl (lv_at hl 3 rfl) ?_
    refine lv_icmp_le (tgt := 21) hx hb dX0_figure_15 (by decide) (fun c15 => ?_) (fun c15 => ?_)
    · rw [if_pos c15] at h
      refine lv_aload_n hx hb dX0_figure_21 rfl (lv_at hl 1 rfl) ?_
      refine lv_dup hx hb dX0_figure_22 rfl ?_
      refine x_get hc hG 0 rfl iX0 3 lX0_23 rfl dX0_figure_23 ?_
      refine lv_iconst (v := 1) hx hb dX0_figure_26 (by decide) ?_
      refine lv_iadd hx hb dX0_figure_27 ?_
      refine x_put (ws' := (wX0 cI ad nI nS text (place + 1) width items sizes size need lifted licked morning tally kinds places lengths downs covers)) hc hG 0 rfl iX0 tyX0 tyX0_ok nmX0 3 lX0_23 rfl rfl rfl (Nat.le_of_ble_eq_true rfl) rfl dX0_figure_28 (fun H locs hG => ?_)
      refine lv_iload_n hx hb dX0_figure_31 rfl (lv_at hl 0 rfl) ?_
      cases h
      exact hret _ _ _ _ hG dX0_figure_32 rfl
    · rw [if_neg c15] at h
      refine lv_bipush (v := (-9)) hx hb dX0_figure_18 (by decide) ?_
      cases h
      exact hret _ _ _ _ hG dX0_figure_20 rfl
set_option maxRecDepth 100000 in
set_option maxHeartbeats 4000000 in
theorem cc_X0_kindBy {l : Launch} {D : va_G} {cI : ClassId} {tL : Nat} (x0 : Int32) (r' : Int32) (h : fX0_kindBy x0 = some r') : Ci l D cI tL yX0_kindBy cX0_kindBy 1 .int rmX0_kindBy [] [.int x0] r' [] := by
  refine Ci_of (own := RX0) (by decide) (Nat.le_of_ble_eq_true rfl) rfl ?_
  intro p e s m below meth c Q A AV hc hret ls hl hG
  obtain ⟨hx, hb, hml, hown, hts, hK, hA, hz⟩ := id hc
  have hl : lv_has ls 1 [(0, .int x0)] := hl
  unfold fX0_kindBy at h
  refine lv_iload_n hx hb dX0_kindBy_0 rfl (lv_at hl 0 rfl) ?_
  by_cases c1_99 : x0 = 99
  · rw [if_pos c1_99] at h
    refine x_swK (tgt := 94) hx hb dX0_kindBy_1 c1_99 (by decide) (by decide) rfl (by decide) ?_
    refine lv_iconst (v := 3) hx hb dX0_kindBy_94 (by decide) ?_
    cases h
    exact hret _ _ _ _ hG dX0_kindBy_95 rfl
  rw [if_neg c1_99] at h
  by_cases c1_104 : x0 = 104
  · rw [if_pos c1_104] at h
    refine x_swK (tgt := 96) hx hb dX0_kindBy_1 c1_104 (by decide) (by decide) rfl (by decide) ?_
    refine lv_iconst (v := 4) hx hb dX0_kindBy_96 (by decide) ?_
    cases h
    exact hret _ _ _ _ hG dX0_kindBy_97 rfl
  rw [if_neg c1_104] at h
  by_cases c1_105 : x0 = 105
  · rw [if_pos c1_105] at h
    refine x_swK (tgt := 98) hx hb dX0_kindBy_1 c1_105 (by decide) (by decide) rfl (by decide) ?_
    refine lv_iconst (v := 5) hx hb dX0_kindBy_98 (by decide) ?_
    cases h
    exact hret _ _ _ _ hG dX0_kindBy_99 rfl
  rw [if_neg c1_105] at h
  by_cases c1_108 : x0 = 108
  · rw [if_pos c1_108] at h
    refine x_swK (tgt := 92) hx hb dX0_kindBy_1 c1_108 (by decide) (by decide) rfl (by decide) ?_
    refine lv_iconst (v := 2) hx hb dX0_kindBy_92 (by decide) ?_
    cases h
    exact hret _ _ _ _ hG dX0_kindBy_93 rfl
  rw [if_neg c1_108] at h
  by_cases c1_112 : x0 = 112
  · rw [if_pos c1_112] at h
    refine x_swK (tgt := 88) hx hb dX0_kindBy_1 c1_112 (by decide) (by decide) rfl (by decide) ?_
    refine lv_iconst (v := 0) hx hb dX0_kindBy_88 (by decide) ?_
    cases h
    exact hret _ _ _ _ hG dX0_kindBy_89 rfl
  rw [if_neg c1_112] at h
  by_cases c1_116 : x0 = 116
  · rw [if_pos c1_116] at h
    refine x_swK (tgt := 90) hx hb dX0_kindBy_1 c1_116 (by decide) (by decide) rfl (by decide) ?_
    refine lv_iconst (v := 1) hx hb dX0_kindBy_90 (by decide) ?_
    cases h
    exact hret _ _ _ _ hG dX0_kindBy_91 rfl
  rw [if_neg c1_116] at h
  refine x_swD (tgt := 100) hx hb dX0_kindBy_1 [99, 104, 105, 108, 112, 116] (by decide) (List.forall_mem_cons.mpr ⟨lv_neT c1_99 (by decide), (List.forall_mem_cons.mpr ⟨lv_neT c1_104 (by decide), (List.forall_mem_cons.mpr ⟨lv_neT c1_105 (by decide), (List.forall_mem_cons.mpr ⟨lv_neT c1_108 (by decide), (List.forall_mem_cons.mpr ⟨lv_neT c1_112 (by decide), (List.forall_mem_cons.mpr ⟨lv_neT c1_116 (by decide), (List.forall_mem_nil _)⟩)⟩)⟩)⟩)⟩)⟩) (by decide) ?_
  refine lv_bipush (v := (-9)) hx hb dX0_kindBy_100 (by decide) ?_
  cases h
  exact hret _ _ _ _ hG dX0_kindBy_102 rfl
set_option maxRecDepth 100000 in
set_option maxHeartbeats 4000000 in
theorem cc_X0_readPeel {l : Launch} {D : va_G} {cI : ClassId} {tL : Nat} (ad : Nat → Nat) (nI : Nat) (nS : Nat) (text : Int32) (place : Int32) (width : Int32) (items : Nat → Int32) (sizes : Nat → Int32) (size : Int32) (need : Int32) (lifted : Int32) (licked : Int32) (morning : Int32) (tally : Int32) (kinds : Nat → Int32) (places : Nat → Int32) (lengths : Nat → Int32) (downs : Nat → Int32) (covers : Nat → Int32) (r' : Int32) (place' : Int32) (size' : Int32) (kinds' : Nat → Int32) (places' : Nat → Int32) (lengths' : Nat → Int32) (downs' : Nat → Int32) (covers' : Nat → Int32) (h : fX0_readPeel nI nS text place width items sizes size kinds places lengths downs covers = some (r', place', size', kinds', places', lengths', downs', covers')) : Ci l D cI tL yX0_readPeel cX0_readPeel 6 .int rmX0_readPeel (wX0 cI ad nI nS text place width items sizes size need lifted licked morning tally kinds places lengths downs covers) [.ref (ad 0)] r' (wX0 cI ad nI nS text place' width items sizes size' need lifted licked morning tally kinds' places' lengths' downs' covers') := by
  refine Ci_of (own := RX0) (by decide) (Nat.le_of_ble_eq_true rfl) rfl ?_
  intro p e s m below meth c Q A AV hc hret ls hl hG
  obtain ⟨hx, hb, hml, hown, hts, hK, hA, hz⟩ := id hc
  have hl : lv_has ls 6 [(0, .ref (ad 0))] := hl
  have hj_111 : ∀ (place : Int32) (size : Int32) (kinds : Nat → Int32) (places : Nat → Int32) (lengths : Nat → Int32) (downs : Nat → Int32) (covers : Nat → Int32) (x1 : Int32) (x2 : Int32) (x3 : Int32) (x4 : Int32) (k0 : Int32) , fX0_readPeel_j111 place size kinds places lengths downs covers x1 x2 x3 x4 k0 = some (r', place', size', kinds', places', lengths', downs', covers') → ∀ (ls : Array Slot) (H : Heap) (locs : List Loc), lv_has ls 6 [(0, .ref (ad 0)), (1, .int x1), (2, .int x2), (3, .int x3), (4, .int x4)] → St D A s (wX0 cI ad nI nS text place width items sizes size need lifted licked morning tally kinds places lengths downs covers) H locs → W p l e rmX0_readPeel s m AV below meth c H locs 0 0 Q (F0 m 111 ls [.int k0]) := by
    intro place size kinds places lengths downs covers x1 x2 x3 x4 k0 h ls H locs hl hG
    unfold fX0_readPeel_j111 at h
    refine lv_istore (lv' := [(5, .int k0), (0, .ref (ad 0)), (1, .int x1), (2, .int x2), (3, .int x3), (4, .int x4)]) hx hb dX0_readPeel_111 hl (by decide) rfl (fun ls hl => ?_)
    refine lv_iload hx hb dX0_readPeel_113 (lv_at hl 0 rfl) ?_
    refine lv_bipush (v := (-9)) hx hb dX0_readPeel_115 (by decide) ?_
    refine lv_icmp_ne (tgt := 125) hx hb dX0_readPeel_117 (by decide) (fun c117 => ?_) (fun c117 => ?_)
    · rw [if_neg c117] at h
      refine lv_aload_n hx hb dX0_readPeel_125 rfl (lv_at hl 1 rfl) ?_
      refine x_get hc hG 0 rfl iX0 1 lX0_15 rfl dX0_readPeel_126 ?_
      refine lv_iload_n hx hb dX0_readPeel_129 rfl (lv_at hl 2 rfl) ?_
      refine lv_iload_n hx hb dX0_readPeel_130 rfl (lv_at hl 3 rfl) ?_
      refine lv_bipush (v := 10) hx hb dX0_readPeel_131 (by decide) ?_
      refine lv_imul hx hb dX0_readPeel_133 ?_
      refine lv_iload_n hx hb dX0_readPeel_134 rfl (lv_at hl 4 rfl) ?_
      refine lv_iadd hx hb dX0_readPeel_135 ?_
      refine lv_iload hx hb dX0_readPeel_136 (lv_at hl 5 rfl) ?_
      refine lv_iload hx hb dX0_readPeel_138 (lv_at hl 0 rfl) ?_
      obtain ⟨size_140, kinds_140, places_140, lengths_140, downs_140, covers_140, e140, h⟩ := bd6_some h
      refine x_vv (rest := []) (ws' := (wX0 cI ad nI nS text place width items sizes size_140 need lifted licked morning tally kinds_140 places_140 lengths_140 downs_140 covers_140)) hc hG (cc_X3_add (fun k => ad (4 + k)) size need lifted licked morning tally kinds places lengths downs covers x1 ((x2 * 10) + x3) x4 k0 size_140 kinds_140 places_140 lengths_140 downs_140 covers_140 e140) [4, 5, 6, 7, 8, 9] [0, 1, 2, 3] [0, 1, 2, 3, 4, 5, 6, 7, 8, 9] rfl rfl rfl 4 rfl rfl lX0_55 ⟨rfl, rfl, by decide, by decide⟩ rfl hl.1 (Nat.le_of_ble_eq_true rfl) rfl dX0_readPeel_140 (fun H locs hG => ?_)
      refine lv_bipush (v := (-9)) hx hb dX0_readPeel_143 (by decide) ?_
      cases h
      exact hret _ _ _ _ hG dX0_readPeel_145 rfl
    · rw [if_pos c117] at h
      refine lv_aload_n hx hb dX0_readPeel_120 rfl (lv_at hl 1 rfl) ?_
      refine x_get hc hG 0 rfl iX0 3 lX0_23 rfl dX0_readPeel_121 ?_
      cases h
      exact hret _ _ _ _ hG dX0_readPeel_124 rfl
  have hj_55 : ∀ (place : Int32) (size : Int32) (kinds : Nat → Int32) (places : Nat → Int32) (lengths : Nat → Int32) (downs : Nat → Int32) (covers : Nat → Int32) (x1 : Int32) (x2 : Int32) (k0 : Int32) , fX0_readPeel_j55 nI nS text place width items sizes size kinds places lengths downs covers x1 x2 k0 = some (r', place', size', kinds', places', lengths', downs', covers') → ∀ (ls : Array Slot) (H : Heap) (locs : List Loc), lv_has ls 6 [(0, .ref (ad 0)), (1, .int x1), (2, .int x2)] → St D A s (wX0 cI ad nI nS text place width items sizes size need lifted licked morning tally kinds places lengths downs covers) H locs → W p l e rmX0_readPeel s m AV below meth c H locs 0 0 Q (F0 m 55 ls [.int k0]) := by
    intro place size kinds places lengths downs covers x1 x2 k0 h ls H locs hl hG
    unfold fX0_readPeel_j55 at h
    refine lv_istore_n (lv' := [(3, .int k0), (0, .ref (ad 0)), (1, .int x1), (2, .int x2)]) hx hb dX0_readPeel_55 rfl hl (by decide) rfl (fun ls hl => ?_)
    refine lv_iload_n hx hb dX0_readPeel_56 rfl (lv_at hl 0 rfl) ?_
    refine lv_bipush (v := (-9)) hx hb dX0_readPeel_57 (by decide) ?_
    refine lv_icmp_ne (tgt := 67) hx hb dX0_readPeel_59 (by decide) (fun c59 => ?_) (fun c59 => ?_)
    · rw [if_neg c59] at h
      refine lv_iload_n hx hb dX0_readPeel_67 rfl (lv_at hl 3 rfl) ?_
      refine lv_bipush (v := 10) hx hb dX0_readPeel_68 (by decide) ?_
      refine lv_imul hx hb dX0_readPeel_70 ?_
      refine lv_iload_n hx hb dX0_readPeel_71 rfl (lv_at hl 0 rfl) ?_
      refine lv_iadd hx hb dX0_readPeel_72 ?_
      refine lv_bipush (v := 16) hx hb dX0_readPeel_73 (by decide) ?_
      refine lv_icmp_lt (tgt := 85) hx hb dX0_readPeel_75 (by decide) (fun c75 => ?_) (fun c75 => ?_)
      · rw [if_pos c75] at h
        refine lv_aload_n hx hb dX0_readPeel_85 rfl (lv_at hl 1 rfl) ?_
        refine lv_iconst (v := 1) hx hb dX0_readPeel_86 (by decide) ?_
        refine lv_iconst (v := 4) hx hb dX0_readPeel_87 (by decide) ?_
        obtain ⟨v88, place_88, e88, h⟩ := bd2_some h
        refine x_vi (rest := []) (ws' := (wX0 cI ad nI nS text place_88 width items sizes size need lifted licked morning tally kinds places lengths downs covers)) hc hG (cc_X0_figure ad nI nS text place width items sizes size need lifted licked morning tally kinds places lengths downs covers 1 4 v88 place_88 e88) [0, 1, 2, 3, 4, 5, 6, 7, 8, 9] [] [0, 1, 2, 3, 4, 5, 6, 7, 8, 9] rfl rfl rfl 0 rfl rfl lX0_38 ⟨rfl, rfl, by decide, by decide⟩ rfl hl.1 (Nat.le_of_ble_eq_true rfl) rfl dX0_readPeel_88 (fun H locs hG => ?_)
        refine lv_istore (lv' := [(4, .int v88), (3, .int k0), (0, .ref (ad 0)), (1, .int x1), (2, .int x2)]) hx hb dX0_readPeel_91 hl (by decide) rfl (fun ls hl => ?_)
        refine lv_iload hx hb dX0_readPeel_93 (lv_at hl 0 rfl) ?_
        refine lv_bipush (v := (-9)) hx hb dX0_readPeel_95 (by decide) ?_
        refine lv_icmp_ne (tgt := 105) hx hb dX0_readPeel_97 (by decide) (fun c97 => ?_) (fun c97 => ?_)
        · rw [if_neg c97] at h
          refine lv_aload_n hx hb dX0_readPeel_105 rfl (lv_at hl 2 rfl) ?_
          refine lv_iconst (v := 0) hx hb dX0_readPeel_106 (by decide) ?_
          refine lv_iconst (v := 1) hx hb dX0_readPeel_107 (by decide) ?_
          obtain ⟨v108, place_108, e108, h⟩ := bd2_some h
          refine x_vi (rest := []) (ws' := (wX0 cI ad nI nS text place_108 width items sizes size need lifted licked morning tally kinds places lengths downs covers)) hc hG (cc_X0_figure ad nI nS text place_88 width items sizes size need lifted licked morning tally kinds places lengths downs covers 0 1 v108 place_108 e108) [0, 1, 2, 3, 4, 5, 6, 7, 8, 9] [] [0, 1, 2, 3, 4, 5, 6, 7, 8, 9] rfl rfl rfl 0 rfl rfl lX0_38 ⟨rfl, rfl, by decide, by decide⟩ rfl hl.1 (Nat.le_of_ble_eq_true rfl) rfl dX0_readPeel_108 (fun H locs hG => ?_)
          exact hj_111 _ _ _ _ _ _ _ _ _ _ _ _ h _ _ _ (lv_sub hl [2, 3, 4, 1, 0] rfl) hG
        · rw [if_pos c97] at h
          refine lv_bipush (v := (-9)) hx hb dX0_readPeel_100 (by decide) ?_
          refine lv_goto (tgt := 111) hx hb dX0_readPeel_102 (by decide) ?_
          exact hj_111 _ _ _ _ _ _ _ _ _ _ _ _ h _ _ _ (lv_sub hl [2, 3, 4, 1, 0] rfl) hG
      · rw [if_neg c75] at h
        refine lv_aload_n hx hb dX0_readPeel_78 rfl (lv_at hl 1 rfl) ?_
        refine x_get hc hG 0 rfl iX0 3 lX0_23 rfl dX0_readPeel_79 ?_
        refine lv_iconst (v := 2) hx hb dX0_readPeel_82 (by decide) ?_
        refine lv_isub hx hb dX0_readPeel_83 ?_
        cases h
        exact hret _ _ _ _ hG dX0_readPeel_84 rfl
    · rw [if_pos c59] at h
      refine lv_aload_n hx hb dX0_readPeel_62 rfl (lv_at hl 1 rfl) ?_
      refine x_get hc hG 0 rfl iX0 3 lX0_23 rfl dX0_readPeel_63 ?_
      cases h
      exact hret _ _ _ _ hG dX0_readPeel_66 rfl
  unfold fX0_readPeel at h
  refine lv_aload_n hx hb dX0_readPeel_0 rfl (lv_at hl 0 rfl) ?_
  obtain ⟨v1, e1, h⟩ := bd1_some h
  refine x_vi (rest := []) (ws' := (wX0 cI ad nI nS text place width items sizes size need lifted licked morning tally kinds places lengths downs covers)) hc hG (cc_X0_sign ad nI nS text place width items sizes size need lifted licked morning tally kinds places lengths downs covers v1 e1) [0, 1, 2, 3, 4, 5, 6, 7, 8, 9] [] [0, 1, 2, 3, 4, 5, 6, 7, 8, 9] rfl rfl rfl 0 rfl rfl lX0_34 ⟨rfl, rfl, by decide, by decide⟩ rfl hl.1 (Nat.le_of_ble_eq_true rfl) rfl dX0_readPeel_1 (fun H locs hG => ?_)
  obtain ⟨v4, e4, h⟩ := bd1_some h
  refine x_si0 (rest := []) hc hG (cc_X0_kindBy v1 v4 e4) lX0_51 ⟨rfl, rfl, by decide, by decide⟩ rfl hl.1 (Nat.le_of_ble_eq_true rfl) rfl dX0_readPeel_4 (fun H locs hG => ?_)
  refine lv_istore_n (lv' := [(1, .int v4), (0, .ref (ad 0))]) hx hb dX0_readPeel_7 rfl hl (by decide) rfl (fun ls hl => ?_)
  refine lv_iload_n hx hb dX0_readPeel_8 rfl (lv_at hl 0 rfl) ?_
  refine lv_bipush (v := (-9)) hx hb dX0_readPeel_9 (by decide) ?_
  refine lv_icmp_ne (tgt := 19) hx hb dX0_readPeel_11 (by decide) (fun c11 => ?_) (fun c11 => ?_)
  · rw [if_neg c11] at h
    refine lv_aload_n hx hb dX0_readPeel_19 rfl (lv_at hl 1 rfl) ?_
    refine lv_dup hx hb dX0_readPeel_20 rfl ?_
    refine x_get hc hG 0 rfl iX0 3 lX0_23 rfl dX0_readPeel_21 ?_
    refine lv_iconst (v := 1) hx hb dX0_readPeel_24 (by decide) ?_
    refine lv_iadd hx hb dX0_readPeel_25 ?_
    refine x_put (ws' := (wX0 cI ad nI nS text (place + 1) width items sizes size need lifted licked morning tally kinds places lengths downs covers)) hc hG 0 rfl iX0 tyX0 tyX0_ok nmX0 3 lX0_23 rfl rfl rfl (Nat.le_of_ble_eq_true rfl) rfl dX0_readPeel_26 (fun H locs hG => ?_)
    refine lv_aload_n hx hb dX0_readPeel_29 rfl (lv_at hl 1 rfl) ?_
    refine lv_iconst (v := 0) hx hb dX0_readPeel_30 (by decide) ?_
    refine lv_bipush (v := 9) hx hb dX0_readPeel_31 (by decide) ?_
    obtain ⟨v33, place_33, e33, h⟩ := bd2_some h
    refine x_vi (rest := []) (ws' := (wX0 cI ad nI nS text place_33 width items sizes size need lifted licked morning tally kinds places lengths downs covers)) hc hG (cc_X0_figure ad nI nS text (place + 1) width items sizes size need lifted licked morning tally kinds places lengths downs covers 0 9 v33 place_33 e33) [0, 1, 2, 3, 4, 5, 6, 7, 8, 9] [] [0, 1, 2, 3, 4, 5, 6, 7, 8, 9] rfl rfl rfl 0 rfl rfl lX0_38 ⟨rfl, rfl, by decide, by decide⟩ rfl hl.1 (Nat.le_of_ble_eq_true rfl) rfl dX0_readPeel_33 (fun H locs hG => ?_)
    refine lv_istore_n (lv' := [(2, .int v33), (1, .int v4), (0, .ref (ad 0))]) hx hb dX0_readPeel_36 rfl hl (by decide) rfl (fun ls hl => ?_)
    refine lv_iload_n hx hb dX0_readPeel_37 rfl (lv_at hl 0 rfl) ?_
    refine lv_bipush (v := (-9)) hx hb dX0_readPeel_38 (by decide) ?_
    refine lv_icmp_ne (tgt := 48) hx hb dX0_readPeel_40 (by decide) (fun c40 => ?_) (fun c40 => ?_)
    · rw [if_neg c40] at h
      refine lv_aload_n hx hb dX0_readPeel_48 rfl (lv_at hl 2 rfl) ?_
      refine lv_iconst (v := 0) hx hb dX0_readPeel_49 (by decide) ?_
      refine lv_bipush (v := 9) hx hb dX0_readPeel_50 (by decide) ?_
      obtain ⟨v52, place_52, e52, h⟩ := bd2_some h
      refine x_vi (rest := []) (ws' := (wX0 cI ad nI nS text place_52 width items sizes size need lifted licked morning tally kinds places lengths downs covers)) hc hG (cc_X0_figure ad nI nS text place_33 width items sizes size need lifted licked morning tally kinds places lengths downs covers 0 9 v52 place_52 e52) [0, 1, 2, 3, 4, 5, 6, 7, 8, 9] [] [0, 1, 2, 3, 4, 5, 6, 7, 8, 9] rfl rfl rfl 0 rfl rfl lX0_38 ⟨rfl, rfl, by decide, by decide⟩ rfl hl.1 (Nat.le_of_ble_eq_true rfl) rfl dX0_readPeel_52 (fun H locs hG => ?_)
      exact hj_55 _ _ _ _ _ _ _ _ _ _ h _ _ _ (lv_sub hl [2, 1, 0] rfl) hG
    · rw [if_pos c40] at h
      refine lv_bipush (v := (-9)) hx hb dX0_readPeel_43 (by decide) ?_
      refine lv_goto (tgt := 55) hx hb dX0_readPeel_45 (by decide) ?_
      exact hj_55 _ _ _ _ _ _ _ _ _ _ h _ _ _ (lv_sub hl [2, 1, 0] rfl) hG
  · rw [if_pos c11] at h
    refine lv_aload_n hx hb dX0_readPeel_14 rfl (lv_at hl 1 rfl) ?_
    refine x_get hc hG 0 rfl iX0 3 lX0_23 rfl dX0_readPeel_15 ?_
    cases h
    exact hret _ _ _ _ hG dX0_readPeel_18 rfl
set_option maxRecDepth 100000 in
set_option maxHeartbeats 4000000 in
theorem cc_X0_read {l : Launch} {D : va_G} {cI : ClassId} {tL : Nat} (ad : Nat → Nat) (nI : Nat) (nS : Nat) (text : Int32) (place : Int32) (width : Int32) (items : Nat → Int32) (sizes : Nat → Int32) (size : Int32) (need : Int32) (lifted : Int32) (licked : Int32) (morning : Int32) (tally : Int32) (kinds : Nat → Int32) (places : Nat → Int32) (lengths : Nat → Int32) (downs : Nat → Int32) (covers : Nat → Int32) (x1 : Int32) (r' : Int32) (text' : Int32) (place' : Int32) (size' : Int32) (need' : Int32) (lifted' : Int32) (licked' : Int32) (morning' : Int32) (tally' : Int32) (kinds' : Nat → Int32) (places' : Nat → Int32) (lengths' : Nat → Int32) (downs' : Nat → Int32) (covers' : Nat → Int32) (h : fX0_read nI nS width items sizes kinds places lengths downs covers x1 = some (r', text', place', size', need', lifted', licked', morning', tally', kinds', places', lengths', downs', covers')) : Ci l D cI tL yX0_read cX0_read 5 .int rmX0_read (wX0 cI ad nI nS text place width items sizes size need lifted licked morning tally kinds places lengths downs covers) [.ref (ad 0), .int x1] r' (wX0 cI ad nI nS text' place' width items sizes size' need' lifted' licked' morning' tally' kinds' places' lengths' downs' covers') := by
  refine Ci_of (own := RX0) (by decide) (Nat.le_of_ble_eq_true rfl) rfl ?_
  intro p e s m below meth c Q A AV hc hret ls hl hG
  obtain ⟨hx, hb, hml, hown, hts, hK, hA, hz⟩ := id hc
  have hl : lv_has ls 5 [(0, .ref (ad 0)), (1, .int x1)] := hl
  have hL_77 : ∀ (text : Int32) (need : Int32) (lifted : Int32) (licked : Int32) (morning : Int32) (tally : Int32) (o : ((Int32 × Int32 × Int32 × Int32 × Int32 × Int32 × Int32 × Int32 × Int32 × (Nat → Int32) × (Nat → Int32) × (Nat → Int32) × (Nat → Int32) × (Nat → Int32)) ⊕ (Int32 × Int32 × (Nat → Int32) × (Nat → Int32) × (Nat → Int32) × (Nat → Int32) × (Nat → Int32)))), (∀ (r : Int32) (text_r : Int32) (place_r : Int32) (size_r : Int32) (need_r : Int32) (lifted_r : Int32) (licked_r : Int32) (morning_r : Int32) (tally_r : Int32) (kinds_r : Nat → Int32) (places_r : Nat → Int32) (lengths_r : Nat → Int32) (downs_r : Nat → Int32) (covers_r : Nat → Int32), o = .inl (r, text_r, place_r, size_r, need_r, lifted_r, licked_r, morning_r, tally_r, kinds_r, places_r, lengths_r, downs_r, covers_r) → ∀ (H : Heap) (locs : List Loc) (pc : Nat) (ls : Array Slot), St D A s (wX0 cI ad nI nS text_r place_r width items sizes size_r need_r lifted_r licked_r morning_r tally_r kinds_r places_r lengths_r downs_r covers_r) H locs → decode cX0_read pc = .ok (.ireturn, 1) → narrow .int (.int r) = .int r → W p l e rmX0_read s m AV below meth c H locs 0 0 Q (F0 m pc ls [.int r])) → (∀ (place_o : Int32) (size_o : Int32) (kinds_o : Nat → Int32) (places_o : Nat → Int32) (lengths_o : Nat → Int32) (downs_o : Nat → Int32) (covers_o : Nat → Int32), o = .inr (place_o, size_o, kinds_o, places_o, lengths_o, downs_o, covers_o) → ∀ (ls : Array Slot) (H : Heap) (locs : List Loc), lv_has ls 5 [(0, .ref (ad 0))] → St D A s (wX0 cI ad nI nS text place_o width items sizes size_o need lifted licked morning tally kinds_o places_o lengths_o downs_o covers_o) H locs → W p l e rmX0_read s m AV below meth c H locs 0 0 Q (F0 m 119 ls [])) → ∀ (n : Nat) (place : Int32) (size : Int32) (kinds : Nat → Int32) (places : Nat → Int32) (lengths : Nat → Int32) (downs : Nat → Int32) (covers : Nat → Int32) (x3 : Int32), fX0_read_L77 nI nS text width items sizes need lifted licked morning tally n place size kinds places lengths downs covers x3 = some o → ∀ (ls : Array Slot) (H : Heap) (locs : List Loc), lv_has ls 5 [(0, .ref (ad 0)), (3, .int x3)] → St D A s (wX0 cI ad nI nS text place width items sizes size need lifted licked morning tally kinds places lengths downs covers) H locs → W p l e rmX0_read s m AV below meth c H locs 0 0 Q (F0 m 77 ls []) := by
    intro text need lifted licked morning tally o KR KE n
    induction n with
    | zero =>
      intro place size kinds places lengths downs covers x3 h
      exact nomatch (show none = some _ from h)
    | succ n ih =>
      intro place size kinds places lengths downs covers x3 h ls H locs hl hG
      have h : fX0_read_B77 nI nS text width items sizes need lifted licked morning tally (fX0_read_L77 nI nS text width items sizes need lifted licked morning tally n) place size kinds places lengths downs covers x3 = some o := h
      unfold fX0_read_B77 at h
      refine lv_iload_n hx hb dX0_read_77 rfl (lv_at hl 1 rfl) ?_
      refine lv_bipush (v := 6) hx hb dX0_read_78 (by decide) ?_
      refine lv_icmp_ge (tgt := 119) hx hb dX0_read_80 (by decide) (fun c80 => ?_) (fun c80 => ?_)
      · rw [if_pos c80] at h
        cases h
        exact KE _ _ _ _ _ _ _ rfl _ _ _ (lv_sub hl [0] rfl) hG
      · rw [if_neg c80] at h
        refine lv_aload_n hx hb dX0_read_83 rfl (lv_at hl 0 rfl) ?_
        obtain ⟨v84, e84, h⟩ := bd1_some h
        refine x_vi (rest := []) (ws' := (wX0 cI ad nI nS text place width items sizes size need lifted licked morning tally kinds places lengths downs covers)) hc hG (cc_X0_sign ad nI nS text place width items sizes size need lifted licked morning tally kinds places lengths downs covers v84 e84) [0, 1, 2, 3, 4, 5, 6, 7, 8, 9] [] [0, 1, 2, 3, 4, 5, 6, 7, 8, 9] rfl rfl rfl 0 rfl rfl lX0_34 ⟨rfl, rfl, by decide, by decide⟩ rfl hl.1 (Nat.le_of_ble_eq_true rfl) rfl dX0_read_84 (fun H locs hG => ?_)
        refine lv_sipush (v := 1000) hx hb dX0_read_87 (by decide) ?_
        refine lv_icmp_eq (tgt := 119) hx hb dX0_read_90 (by decide) (fun c90 => ?_) (fun c90 => ?_)
        · rw [if_pos c90] at h
          cases h
          exact KE _ _ _ _ _ _ _ rfl _ _ _ (lv_sub hl [0] rfl) hG
        · rw [if_neg c90] at h
          refine lv_aload_n hx hb dX0_read_93 rfl (lv_at hl 0 rfl) ?_
          obtain ⟨v94, place_94, size_94, kinds_94, places_94, lengths_94, downs_94, covers_94, e94, h⟩ := bd8_some h
          refine x_vi (rest := []) (ws' := (wX0 cI ad nI nS text place_94 width items sizes size_94 need lifted licked morning tally kinds_94 places_94 lengths_94 downs_94 covers_94)) hc hG (cc_X0_readPeel ad nI nS text place width items sizes size need lifted licked morning tally kinds places lengths downs covers v94 place_94 size_94 kinds_94 places_94 lengths_94 downs_94 covers_94 e94) [0, 1, 2, 3, 4, 5, 6, 7, 8, 9] [] [0, 1, 2, 3, 4, 5, 6, 7, 8, 9] rfl rfl rfl 0 rfl rfl lX0_45 ⟨rfl, rfl, by decide, by decide⟩ rfl hl.1 (Nat.le_of_ble_eq_true rfl) rfl dX0_read_94 (fun H locs hG => ?_)
          refine lv_istore (lv' := [(4, .int v94), (0, .ref (ad 0)), (3, .int x3)]) hx hb dX0_read_97 hl (by decide) rfl (fun ls hl => ?_)
          refine lv_iload hx hb dX0_read_99 (lv_at hl 0 rfl) ?_
          refine lv_bipush (v := (-9)) hx hb dX0_read_101 (by decide) ?_
          refine lv_icmp_eq (tgt := 109) hx hb dX0_read_103 (by decide) (fun c103 => ?_) (fun c103 => ?_)
          · rw [if_pos c103] at h
            refine lv_aload_n hx hb dX0_read_109 rfl (lv_at hl 1 rfl) ?_
            obtain ⟨place_110, e110, h⟩ := bd1_some h
            refine x_vv (rest := []) (ws' := (wX0 cI ad nI nS text place_110 width items sizes size_94 need lifted licked morning tally kinds_94 places_94 lengths_94 downs_94 covers_94)) hc hG (cc_X0_skipBlanks ad nI nS text place_94 width items sizes size_94 need lifted licked morning tally kinds_94 places_94 lengths_94 downs_94 covers_94 place_110 e110) [0, 1, 2, 3, 4, 5, 6, 7, 8, 9] [] [0, 1, 2, 3, 4, 5, 6, 7, 8, 9] rfl rfl rfl 0 rfl rfl lX0_31 ⟨rfl, rfl, by decide, by decide⟩ rfl hl.1 (Nat.le_of_ble_eq_true rfl) rfl dX0_read_110 (fun H locs hG => ?_)
            refine lv_iinc (v := (x3 + 1)) (lv' := [(3, .int (x3 + 1)), (4, .int v94), (0, .ref (ad 0))]) hx hb dX0_read_113 hl (k := 2) rfl rfl (by decide) rfl (fun ls hl => ?_)
            refine lv_goto (tgt := 77) hx hb dX0_read_116 (by decide) ?_
            exact ih _ _ _ _ _ _ _ _ h _ _ _ (lv_sub hl [2, 0] rfl) hG
          · rw [if_neg c103] at h
            refine lv_iload hx hb dX0_read_106 (lv_at hl 0 rfl) ?_
            cases h
            exact KR _ _ _ _ _ _ _ _ _ _ _ _ _ _ rfl _ _ _ _ hG dX0_read_108 rfl
  have hj_144 : ∀ (text : Int32) (place : Int32) (size : Int32) (need : Int32) (lifted : Int32) (licked : Int32) (morning : Int32) (tally : Int32) (kinds : Nat → Int32) (places : Nat → Int32) (lengths : Nat → Int32) (downs : Nat → Int32) (covers : Nat → Int32) , fX0_read_j144 text place size need lifted licked morning tally kinds places lengths downs covers = some (r', text', place', size', need', lifted', licked', morning', tally', kinds', places', lengths', downs', covers') → ∀ (ls : Array Slot) (H : Heap) (locs : List Loc), lv_has ls 5 [(0, .ref (ad 0))] → St D A s (wX0 cI ad nI nS text place width items sizes size need lifted licked morning tally kinds places lengths downs covers) H locs → W p l e rmX0_read s m AV below meth c H locs 0 0 Q (F0 m 144 ls []) := by
    intro text place size need lifted licked morning tally kinds places lengths downs covers h ls H locs hl hG
    unfold fX0_read_j144 at h
    refine lv_aload_n hx hb dX0_read_144 rfl (lv_at hl 0 rfl) ?_
    refine x_get hc hG 0 rfl iX0 3 lX0_23 rfl dX0_read_145 ?_
    cases h
    exact hret _ _ _ _ hG dX0_read_148 rfl
  unfold fX0_read at h
  refine lv_aload_n hx hb dX0_read_0 rfl (lv_at hl 0 rfl) ?_
  refine lv_iload_n hx hb dX0_read_1 rfl (lv_at hl 1 rfl) ?_
  refine x_put (ws' := (wX0 cI ad nI nS x1 place width items sizes size need lifted licked morning tally kinds places lengths downs covers)) hc hG 0 rfl iX0 tyX0 tyX0_ok nmX0 2 lX0_19 rfl rfl rfl (Nat.le_of_ble_eq_true rfl) rfl dX0_read_2 (fun H locs hG => ?_)
  refine lv_aload_n hx hb dX0_read_5 rfl (lv_at hl 0 rfl) ?_
  refine lv_iconst (v := 0) hx hb dX0_read_6 (by decide) ?_
  refine x_put (ws' := (wX0 cI ad nI nS x1 0 width items sizes size need lifted licked morning tally kinds places lengths downs covers)) hc hG 0 rfl iX0 tyX0 tyX0_ok nmX0 3 lX0_23 rfl rfl rfl (Nat.le_of_ble_eq_true rfl) rfl dX0_read_7 (fun H locs hG => ?_)
  refine lv_aload_n hx hb dX0_read_10 rfl (lv_at hl 0 rfl) ?_
  refine x_get hc hG 0 rfl iX0 1 lX0_15 rfl dX0_read_11 ?_
  obtain ⟨size_14, need_14, lifted_14, licked_14, morning_14, tally_14, e14, h⟩ := bd6_some h
  refine x_vv (rest := []) (ws' := (wX0 cI ad nI nS x1 0 width items sizes size_14 need_14 lifted_14 licked_14 morning_14 tally_14 kinds places lengths downs covers)) hc hG (cc_X3_clear (fun k => ad (4 + k)) size need lifted licked morning tally kinds places lengths downs covers size_14 need_14 lifted_14 licked_14 morning_14 tally_14 e14) [4, 5, 6, 7, 8, 9] [0, 1, 2, 3] [0, 1, 2, 3, 4, 5, 6, 7, 8, 9] rfl rfl rfl 4 rfl rfl lX0_26 ⟨rfl, rfl, by decide, by decide⟩ rfl hl.1 (Nat.le_of_ble_eq_true rfl) rfl dX0_read_14 (fun H locs hG => ?_)
  refine lv_aload_n hx hb dX0_read_17 rfl (lv_at hl 0 rfl) ?_
  obtain ⟨place_18, e18, h⟩ := bd1_some h
  refine x_vv (rest := []) (ws' := (wX0 cI ad nI nS x1 place_18 width items sizes size_14 need_14 lifted_14 licked_14 morning_14 tally_14 kinds places lengths downs covers)) hc hG (cc_X0_skipBlanks ad nI nS x1 0 width items sizes size_14 need_14 lifted_14 licked_14 morning_14 tally_14 kinds places lengths downs covers place_18 e18) [0, 1, 2, 3, 4, 5, 6, 7, 8, 9] [] [0, 1, 2, 3, 4, 5, 6, 7, 8, 9] rfl rfl rfl 0 rfl rfl lX0_31 ⟨rfl, rfl, by decide, by decide⟩ rfl hl.1 (Nat.le_of_ble_eq_true rfl) rfl dX0_read_18 (fun H locs hG => ?_)
  refine lv_aload_n hx hb dX0_read_21 rfl (lv_at hl 0 rfl) ?_
  obtain ⟨v22, e22, h⟩ := bd1_some h
  refine x_vi (rest := []) (ws' := (wX0 cI ad nI nS x1 place_18 width items sizes size_14 need_14 lifted_14 licked_14 morning_14 tally_14 kinds places lengths downs covers)) hc hG (cc_X0_sign ad nI nS x1 place_18 width items sizes size_14 need_14 lifted_14 licked_14 morning_14 tally_14 kinds places lengths downs covers v22 e22) [0, 1, 2, 3, 4, 5, 6, 7, 8, 9] [] [0, 1, 2, 3, 4, 5, 6, 7, 8, 9] rfl rfl rfl 0 rfl rfl lX0_34 ⟨rfl, rfl, by decide, by decide⟩ rfl hl.1 (Nat.le_of_ble_eq_true rfl) rfl dX0_read_22 (fun H locs hG => ?_)
  refine lv_bipush (v := 110) hx hb dX0_read_25 (by decide) ?_
  refine lv_icmp_eq (tgt := 35) hx hb dX0_read_27 (by decide) (fun c27 => ?_) (fun c27 => ?_)
  · rw [if_pos c27] at h
    refine lv_aload_n hx hb dX0_read_35 rfl (lv_at hl 0 rfl) ?_
    refine lv_dup hx hb dX0_read_36 rfl ?_
    refine x_get hc hG 0 rfl iX0 3 lX0_23 rfl dX0_read_37 ?_
    refine lv_iconst (v := 1) hx hb dX0_read_40 (by decide) ?_
    refine lv_iadd hx hb dX0_read_41 ?_
    refine x_put (ws' := (wX0 cI ad nI nS x1 (place_18 + 1) width items sizes size_14 need_14 lifted_14 licked_14 morning_14 tally_14 kinds places lengths downs covers)) hc hG 0 rfl iX0 tyX0 tyX0_ok nmX0 3 lX0_23 rfl rfl rfl (Nat.le_of_ble_eq_true rfl) rfl dX0_read_42 (fun H locs hG => ?_)
    refine lv_aload_n hx hb dX0_read_45 rfl (lv_at hl 0 rfl) ?_
    refine lv_iconst (v := 1) hx hb dX0_read_46 (by decide) ?_
    refine lv_iconst (v := 4) hx hb dX0_read_47 (by decide) ?_
    obtain ⟨v48, place_48, e48, h⟩ := bd2_some h
    refine x_vi (rest := []) (ws' := (wX0 cI ad nI nS x1 place_48 width items sizes size_14 need_14 lifted_14 licked_14 morning_14 tally_14 kinds places lengths downs covers)) hc hG (cc_X0_figure ad nI nS x1 (place_18 + 1) width items sizes size_14 need_14 lifted_14 licked_14 morning_14 tally_14 kinds places lengths downs covers 1 4 v48 place_48 e48) [0, 1, 2, 3, 4, 5, 6, 7, 8, 9] [] [0, 1, 2, 3, 4, 5, 6, 7, 8, 9] rfl rfl rfl 0 rfl rfl lX0_38 ⟨rfl, rfl, by decide, by decide⟩ rfl hl.1 (Nat.le_of_ble_eq_true rfl) rfl dX0_read_48 (fun H locs hG => ?_)
    refine lv_istore_n (lv' := [(2, .int v48), (0, .ref (ad 0)), (1, .int x1)]) hx hb dX0_read_51 rfl hl (by decide) rfl (fun ls hl => ?_)
    refine lv_iload_n hx hb dX0_read_52 rfl (lv_at hl 0 rfl) ?_
    refine lv_bipush (v := (-9)) hx hb dX0_read_53 (by decide) ?_
    refine lv_icmp_ne (tgt := 63) hx hb dX0_read_55 (by decide) (fun c55 => ?_) (fun c55 => ?_)
    · rw [if_neg c55] at h
      refine lv_aload_n hx hb dX0_read_63 rfl (lv_at hl 1 rfl) ?_
      refine x_get hc hG 0 rfl iX0 1 lX0_15 rfl dX0_read_64 ?_
      refine lv_iload_n hx hb dX0_read_67 rfl (lv_at hl 0 rfl) ?_
      refine x_putN (ws' := (wX0 cI ad nI nS x1 place_48 width items sizes size_14 v48 lifted_14 licked_14 morning_14 tally_14 kinds places lengths downs covers)) hc hG 4 rfl iX3 tyX3 tyX3_ok nmX3 6 lX0_42 rfl rfl rfl (Nat.le_of_ble_eq_true rfl) rfl dX0_read_68 (fun H locs hG => ?_)
      refine lv_aload_n hx hb dX0_read_71 rfl (lv_at hl 1 rfl) ?_
      obtain ⟨place_72, e72, h⟩ := bd1_some h
      refine x_vv (rest := []) (ws' := (wX0 cI ad nI nS x1 place_72 width items sizes size_14 v48 lifted_14 licked_14 morning_14 tally_14 kinds places lengths downs covers)) hc hG (cc_X0_skipBlanks ad nI nS x1 place_48 width items sizes size_14 v48 lifted_14 licked_14 morning_14 tally_14 kinds places lengths downs covers place_72 e72) [0, 1, 2, 3, 4, 5, 6, 7, 8, 9] [] [0, 1, 2, 3, 4, 5, 6, 7, 8, 9] rfl rfl rfl 0 rfl rfl lX0_31 ⟨rfl, rfl, by decide, by decide⟩ rfl hl.1 (Nat.le_of_ble_eq_true rfl) rfl dX0_read_72 (fun H locs hG => ?_)
      refine lv_iconst (v := 0) hx hb dX0_read_75 (by decide) ?_
      refine lv_istore_n (lv' := [(3, .int 0), (2, .int v48), (0, .ref (ad 0)), (1, .int x1)]) hx hb dX0_read_76 rfl hl (by decide) rfl (fun ls hl => ?_)
      rcases st7_some h with e77 | ⟨place_L77, size_L77, kinds_L77, places_L77, lengths_L77, downs_L77, covers_L77, e77, h⟩
      · exact hL_77 _ _ _ _ _ _ _ (fun _ _ _ _ _ _ _ _ _ _ _ _ _ _ e H locs pc ls hG d hn => by cases e; exact hret _ _ _ _ hG d hn) (fun _ _ _ _ _ _ _ e => by cases e) _ _ _ _ _ _ _ _ _ e77 _ _ _ (lv_sub hl [2, 0] rfl) hG
      · refine hL_77 _ _ _ _ _ _ _ (fun _ _ _ _ _ _ _ _ _ _ _ _ _ _ e => by cases e) (fun place_L77 size_L77 kinds_L77 places_L77 lengths_L77 downs_L77 covers_L77 e ls H locs hl hG => ?_) _ _ _ _ _ _ _ _ _ e77 _ _ _ (lv_sub hl [2, 0] rfl) hG
        cases e
        refine lv_aload_n hx hb dX0_read_119 rfl (lv_at hl 0 rfl) ?_
        refine x_get hc hG 0 rfl iX0 1 lX0_15 rfl dX0_read_120 ?_
        refine x_getN hc hG 4 rfl iX3 5 lX0_48 rfl dX0_read_123 ?_
        refine lv_if_le (tgt := 144) hx hb dX0_read_126 (by decide) (fun c126 => ?_) (fun c126 => ?_)
        · rw [if_pos c126] at h
          exact hj_144 _ _ _ _ _ _ _ _ _ _ _ _ _ h _ _ _ (lv_sub hl [0] rfl) hG
        · rw [if_neg c126] at h
          refine lv_aload_n hx hb dX0_read_129 rfl (lv_at hl 0 rfl) ?_
          obtain ⟨v130, e130, h⟩ := bd1_some h
          refine x_vi (rest := []) (ws' := (wX0 cI ad nI nS x1 place_L77 width items sizes size_L77 v48 lifted_14 licked_14 morning_14 tally_14 kinds_L77 places_L77 lengths_L77 downs_L77 covers_L77)) hc hG (cc_X0_sign ad nI nS x1 place_L77 width items sizes size_L77 v48 lifted_14 licked_14 morning_14 tally_14 kinds_L77 places_L77 lengths_L77 downs_L77 covers_L77 v130 e130) [0, 1, 2, 3, 4, 5, 6, 7, 8, 9] [] [0, 1, 2, 3, 4, 5, 6, 7, 8, 9] rfl rfl rfl 0 rfl rfl lX0_34 ⟨rfl, rfl, by decide, by decide⟩ rfl hl.1 (Nat.le_of_ble_eq_true rfl) rfl dX0_read_130 (fun H locs hG => ?_)
          refine lv_sipush (v := 1000) hx hb dX0_read_133 (by decide) ?_
          refine lv_icmp_ne (tgt := 144) hx hb dX0_read_136 (by decide) (fun c136 => ?_) (fun c136 => ?_)
          · rw [if_neg c136] at h
            exact hj_144 _ _ _ _ _ _ _ _ _ _ _ _ _ h _ _ _ (lv_sub hl [0] rfl) hG
          · rw [if_pos c136] at h
            refine lv_bipush (v := (-9)) hx hb dX0_read_139 (by decide) ?_
            refine lv_goto (tgt := 148) hx hb dX0_read_141 (by decide) ?_
            cases h
            exact hret _ _ _ _ hG dX0_read_148 rfl
    · rw [if_pos c55] at h
      refine lv_aload_n hx hb dX0_read_58 rfl (lv_at hl 1 rfl) ?_
      refine x_get hc hG 0 rfl iX0 3 lX0_23 rfl dX0_read_59 ?_
      cases h
      exact hret _ _ _ _ hG dX0_read_62 rfl
  · rw [if_neg c27] at h
    refine lv_aload_n hx hb dX0_read_30 rfl (lv_at hl 0 rfl) ?_
    refine x_get hc hG 0 rfl iX0 3 lX0_23 rfl dX0_read_31 ?_
    cases h
    exact hret _ _ _ _ hG dX0_read_34 rfl
