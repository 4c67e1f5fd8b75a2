set_option maxRecDepth 100000 in
set_option maxHeartbeats 4000000 in
theorem cc_X5_changes {l : Launch} {D : va_G} {cI : ClassId} {tL : Nat} (ad : Nat → Nat) (deeds : Int32) (finding : Int32) (asked : Int32) (upper : Int64) (lower : Int64) (m_at : Int32) (wrong : Int32) (rowSize : Nat → Int32) (rows : Nat → Int32) (textSize : Nat → Int32) (texts : Nat → Int32) (spare : Nat → Int32) (now : Nat → Int32) (draft : Nat → Int32) (tried : Nat → Int32) (past : Nat → Int32) (kept : Nat → Int32) (keptPast : Nat → Int32) (keptDeeds : Nat → Int32) (findings : Nat → Int32) (worth : Nat → Int32) (x1 : Int32) (x2 : Int32) (r' : Int32) (deeds' : Int32) (now' : Nat → Int32) (past' : Nat → Int32) (h : fX5_changes deeds now past x1 x2 = some (r', deeds', now', past')) : Ci l D cI tL yX5_changes cX5_changes 3 .int rmX5_changes (wX5 cI ad deeds finding asked upper lower m_at wrong rowSize rows textSize texts spare now draft tried past kept keptPast keptDeeds findings worth) [.ref (ad 0), .int x1, .int x2] r' (wX5 cI ad deeds' finding asked upper lower m_at wrong rowSize rows textSize texts spare now' draft tried past' kept keptPast keptDeeds findings worth) := by
  refine Ci_of (own := RX5) (by decide) (Nat.le_of_ble_eq_true rfl) rfl ?_
  intro p e s m below meth c Q A AV hc hret ls hl hG
  obtain ⟨hx, hb, hml, hown, hts, hK, hA, hz⟩ := id hc
  have hl : lv_has ls 3 [(0, .ref (ad 0)), (1, .int x1), (2, .int x2)] := hl
  unfold fX5_changes at h
  refine lv_aload_n hx hb dX5_changes_0 rfl (lv_at hl 0 rfl) ?_
  obtain ⟨deeds_1, past_1, e1, h⟩ := bd2_some h
  refine x_vv (rest := []) (ws' := (wX5 cI ad deeds_1 finding asked upper lower m_at wrong rowSize rows textSize texts spare now draft tried past_1 kept keptPast keptDeeds findings worth)) hc hG (cc_X5_notes ad deeds finding asked upper lower m_at wrong rowSize rows textSize texts spare now draft tried past kept keptPast keptDeeds findings worth deeds_1 past_1 e1) [0, 1, 2, 3, 4, 5, 6, 7, 8, 9, 10, 11, 12, 13, 14] [] [0, 1, 2, 3, 4, 5, 6, 7, 8, 9, 10, 11, 12, 13, 14] rfl rfl rfl 0 rfl rfl lX5_190 ⟨rfl, rfl, by decide, by decide⟩ rfl hl.1 (Nat.le_of_ble_eq_true rfl) rfl dX5_changes_1 (fun H locs hG => ?_)
  refine lv_aload_n hx hb dX5_changes_4 rfl (lv_at hl 0 rfl) ?_
  refine x_get hc hG 0 rfl iX5 5 lX5_25 rfl dX5_changes_5 ?_
  refine lv_iconst (v := 5) hx hb dX5_changes_8 (by decide) ?_
  refine lv_iconst (v := 5) hx hb dX5_changes_9 (by decide) ?_
  refine lv_iload_n hx hb dX5_changes_10 rfl (lv_at hl 1 rfl) ?_
  refine lv_imul hx hb dX5_changes_11 ?_
  refine lv_iadd hx hb dX5_changes_12 ?_
  refine lv_iload_n hx hb dX5_changes_13 rfl (lv_at hl 2 rfl) ?_
  refine lv_iadd hx hb dX5_changes_14 ?_
  refine lv_iconst (v := 1) hx hb dX5_changes_15 (by decide) ?_
  refine lv_aload_n hx hb dX5_changes_16 rfl (lv_at hl 0 rfl) ?_
  refine x_get hc hG 0 rfl iX5 5 lX5_25 rfl dX5_changes_17 ?_
  refine lv_iconst (v := 5) hx hb dX5_changes_20 (by decide) ?_
  refine lv_iconst (v := 5) hx hb dX5_changes_21 (by decide) ?_
  refine lv_iload_n hx hb dX5_changes_22 rfl (lv_at hl 1 rfl) ?_
  refine lv_imul hx hb dX5_changes_23 ?_
  refine lv_iadd hx hb dX5_changes_24 ?_
  refine lv_iload_n hx hb dX5_changes_25 rfl (lv_at hl 2 rfl) ?_
  refine lv_iadd hx hb dX5_changes_26 ?_
  obtain ⟨v27, e27, h⟩ := bd1_some h
  refine x_ald hc hG 6 rfl e27 dX5_changes_27 ?_
  refine lv_isub hx hb dX5_changes_28 ?_
  obtain ⟨now_29, e29, h⟩ := bd1_some h
  refine x_ast (ws' := (wX5 cI ad deeds_1 finding asked upper lower m_at wrong rowSize rows textSize texts spare now_29 draft tried past_1 kept keptPast keptDeeds findings worth)) hc hG 6 rfl e29 rfl dX5_changes_29 (fun H locs hG => ?_)
  refine lv_aload_n hx hb dX5_changes_30 rfl (lv_at hl 0 rfl) ?_
  refine x_get hc hG 0 rfl iX5 5 lX5_25 rfl dX5_changes_31 ?_
  refine lv_iconst (v := 5) hx hb dX5_changes_34 (by decide) ?_
  refine lv_iconst (v := 5) hx hb dX5_changes_35 (by decide) ?_
  refine lv_iload_n hx hb dX5_changes_36 rfl (lv_at hl 1 rfl) ?_
  refine lv_imul hx hb dX5_changes_37 ?_
  refine lv_iadd hx hb dX5_changes_38 ?_
  refine lv_iload_n hx hb dX5_changes_39 rfl (lv_at hl 2 rfl) ?_
  refine lv_iadd hx hb dX5_changes_40 ?_
  obtain ⟨v41, e41, h⟩ := bd1_some h
  refine x_ald hc hG 6 rfl e41 dX5_changes_41 ?_
  cases h
  exact hret _ _ _ _ hG dX5_changes_42 rfl
set_option maxRecDepth 100000 in
set_option maxHeartbeats 4000000 in
theorem cc_X5_turn {l : Launch} {D : va_G} {cI : ClassId} {tL : Nat} (ad : Nat → Nat) (deeds : Int32) (finding : Int32) (asked : Int32) (upper : Int64) (lower : Int64) (m_at : Int32) (wrong : Int32) (rowSize : Nat → Int32) (rows : Nat → Int32) (textSize : Nat → Int32) (texts : Nat → Int32) (spare : Nat → Int32) (now : Nat → Int32) (draft : Nat → Int32) (tried : Nat → Int32) (past : Nat → Int32) (kept : Nat → Int32) (keptPast : Nat → Int32) (keptDeeds : Nat → Int32) (findings : Nat → Int32) (worth : Nat → Int32) (x1 : Int32) (r' : Int32) (deeds' : Int32) (now' : Nat → Int32) (past' : Nat → Int32) (h : fX5_turn deeds now past x1 = some (r', deeds', now', past')) : Ci l D cI tL yX5_turn cX5_turn 2 .int rmX5_turn (wX5 cI ad deeds finding asked upper lower m_at wrong rowSize rows textSize texts spare now draft tried past kept keptPast keptDeeds findings worth) [.ref (ad 0), .int x1] r' (wX5 cI ad deeds' finding asked upper lower m_at wrong rowSize rows textSize texts spare now' draft tried past' kept keptPast keptDeeds findings worth) := by
  refine Ci_of (own := RX5) (by decide) (Nat.le_of_ble_eq_true rfl) rfl ?_
  intro p e s m below meth c Q A AV hc hret ls hl hG
  obtain ⟨hx, hb, hml, hown, hts, hK, hA, hz⟩ := id hc
  have hl : lv_has ls 2 [(0, .ref (ad 0)), (1, .int x1)] := hl
  unfold fX5_turn at h
  refine lv_aload_n hx hb dX5_turn_0 rfl (lv_at hl 0 rfl) ?_
  refine lv_iload_n hx hb dX5_turn_1 rfl (lv_at hl 1 rfl) ?_
  obtain ⟨v2, e2, h⟩ := bd1_some h
  refine x_vi (rest := []) (ws' := (wX5 cI ad deeds finding asked upper lower m_at wrong rowSize rows textSize texts spare now draft tried past kept keptPast keptDeeds findings worth)) hc hG (cc_X5_isPeel ad deeds finding asked upper lower m_at wrong rowSize rows textSize texts spare now draft tried past kept keptPast keptDeeds findings worth x1 v2 e2) [0, 1, 2, 3, 4, 5, 6, 7, 8, 9, 10, 11, 12, 13, 14] [] [0, 1, 2, 3, 4, 5, 6, 7, 8, 9, 10, 11, 12, 13, 14] rfl rfl rfl 0 rfl rfl lX5_170 ⟨rfl, rfl, by decide, by decide⟩ rfl hl.1 (Nat.le_of_ble_eq_true rfl) rfl dX5_turn_2 (fun H locs hG => ?_)
  refine lv_if_ne (tgt := 10) hx hb dX5_turn_5 (by decide) (fun c5 => ?_) (fun c5 => ?_)
  · rw [if_neg c5] at h
    refine lv_aload_n hx hb dX5_turn_10 rfl (lv_at hl 0 rfl) ?_
    refine x_get hc hG 0 rfl iX5 9 lX5_124 rfl dX5_turn_11 ?_
    refine lv_bipush (v := 40) hx hb dX5_turn_14 (by decide) ?_
    refine lv_icmp_ne (tgt := 24) hx hb dX5_turn_16 (by decide) (fun c16 => ?_) (fun c16 => ?_)
    · rw [if_neg c16] at h
      refine lv_aload_n hx hb dX5_turn_24 rfl (lv_at hl 0 rfl) ?_
      refine lv_iload_n hx hb dX5_turn_25 rfl (lv_at hl 1 rfl) ?_
      refine lv_iconst (v := 3) hx hb dX5_turn_26 (by decide) ?_
      obtain ⟨v27, deeds_27, now_27, past_27, e27, h⟩ := bd4_some h
      refine x_vi (rest := []) (ws' := (wX5 cI ad deeds_27 finding asked upper lower m_at wrong rowSize rows textSize texts spare now_27 draft tried past_27 kept keptPast keptDeeds findings worth)) hc hG (cc_X5_changes ad deeds finding asked upper lower m_at wrong rowSize rows textSize texts spare now draft tried past kept keptPast keptDeeds findings worth x1 3 v27 deeds_27 now_27 past_27 e27) [0, 1, 2, 3, 4, 5, 6, 7, 8, 9, 10, 11, 12, 13, 14] [] [0, 1, 2, 3, 4, 5, 6, 7, 8, 9, 10, 11, 12, 13, 14] rfl rfl rfl 0 rfl rfl lX5_196 ⟨rfl, rfl, by decide, by decide⟩ rfl hl.1 (Nat.le_of_ble_eq_true rfl) rfl dX5_turn_27 (fun H locs hG => ?_)
      cases h
      exact hret _ _ _ _ hG dX5_turn_30 rfl
    · rw [if_pos c16] at h
      refine lv_bipush (v := (-2)) hx hb dX5_turn_19 (by decide) ?_
      refine lv_goto (tgt := 30) hx hb dX5_turn_21 (by decide) ?_
      cases h
      exact hret _ _ _ _ hG dX5_turn_30 rfl
  · rw [if_pos c5] at h
    refine lv_iconst (v := (-1)) hx hb dX5_turn_8 (by decide) ?_
    cases h
    exact hret _ _ _ _ hG dX5_turn_9 rfl
set_option maxRecDepth 100000 in
set_option maxHeartbeats 4000000 in
theorem cc_X5_lift {l : Launch} {D : va_G} {cI : ClassId} {tL : Nat} (ad : Nat → Nat) (deeds : Int32) (finding : Int32) (asked : Int32) (upper : Int64) (lower : Int64) (m_at : Int32) (wrong : Int32) (rowSize : Nat → Int32) (rows : Nat → Int32) (textSize : Nat → Int32) (texts : Nat → Int32) (spare : Nat → Int32) (now : Nat → Int32) (draft : Nat → Int32) (tried : Nat → Int32) (past : Nat → Int32) (kept : Nat → Int32) (keptPast : Nat → Int32) (keptDeeds : Nat → Int32) (findings : Nat → Int32) (worth : Nat → Int32) (x1 : Int32) (r' : Int32) (deeds' : Int32) (now' : Nat → Int32) (past' : Nat → Int32) (h : fX5_lift deeds now past x1 = some (r', deeds', now', past')) : Ci l D cI tL yX5_lift cX5_lift 2 .int rmX5_lift (wX5 cI ad deeds finding asked upper lower m_at wrong rowSize rows textSize texts spare now draft tried past kept keptPast keptDeeds findings worth) [.ref (ad 0), .int x1] r' (wX5 cI ad deeds' finding asked upper lower m_at wrong rowSize rows textSize texts spare now' draft tried past' kept keptPast keptDeeds findings worth) := by
  refine Ci_of (own := RX5) (by decide) (Nat.le_of_ble_eq_true rfl) rfl ?_
  intro p e s m below meth c Q A AV hc hret ls hl hG
  obtain ⟨hx, hb, hml, hown, hts, hK, hA, hz⟩ := id hc
  have hl : lv_has ls 2 [(0, .ref (ad 0)), (1, .int x1)] := hl
  unfold fX5_lift at h
  refine lv_aload_n hx hb dX5_lift_0 rfl (lv_at hl 0 rfl) ?_
  refine lv_iload_n hx hb dX5_lift_1 rfl (lv_at hl 1 rfl) ?_
  obtain ⟨v2, e2, h⟩ := bd1_some h
  refine x_vi (rest := []) (ws' := (wX5 cI ad deeds finding asked upper lower m_at wrong rowSize rows textSize texts spare now draft tried past kept keptPast keptDeeds findings worth)) hc hG (cc_X5_isPeel ad deeds finding asked upper lower m_at wrong rowSize rows textSize texts spare now draft tried past kept keptPast keptDeeds findings worth x1 v2 e2) [0, 1, 2, 3, 4, 5, 6, 7, 8, 9, 10, 11, 12, 13, 14] [] [0, 1, 2, 3, 4, 5, 6, 7, 8, 9, 10, 11, 12, 13, 14] rfl rfl rfl 0 rfl rfl lX5_170 ⟨rfl, rfl, by decide, by decide⟩ rfl hl.1 (Nat.le_of_ble_eq_true rfl) rfl dX5_lift_2 (fun H locs hG => ?_)
  refine lv_if_ne (tgt := 10) hx hb dX5_lift_5 (by decide) (fun c5 => ?_) (fun c5 => ?_)
  · rw [if_neg c5] at h
    refine lv_aload_n hx hb dX5_lift_10 rfl (lv_at hl 0 rfl) ?_
    refine x_get hc hG 0 rfl iX5 9 lX5_124 rfl dX5_lift_11 ?_
    refine lv_bipush (v := 40) hx hb dX5_lift_14 (by decide) ?_
    refine lv_icmp_ne (tgt := 24) hx hb dX5_lift_16 (by decide) (fun c16 => ?_) (fun c16 => ?_)
    · rw [if_neg c16] at h
      refine lv_aload_n hx hb dX5_lift_24 rfl (lv_at hl 0 rfl) ?_
      refine lv_iload_n hx hb dX5_lift_25 rfl (lv_at hl 1 rfl) ?_
      refine lv_iconst (v := 4) hx hb dX5_lift_26 (by decide) ?_
      obtain ⟨v27, deeds_27, now_27, past_27, e27, h⟩ := bd4_some h
      refine x_vi (rest := []) (ws' := (wX5 cI ad deeds_27 finding asked upper lower m_at wrong rowSize rows textSize texts spare now_27 draft tried past_27 kept keptPast keptDeeds findings worth)) hc hG (cc_X5_changes ad deeds finding asked upper lower m_at wrong rowSize rows textSize texts spare now draft tried past kept keptPast keptDeeds findings worth x1 4 v27 deeds_27 now_27 past_27 e27) [0, 1, 2, 3, 4, 5, 6, 7, 8, 9, 10, 11, 12, 13, 14] [] [0, 1, 2, 3, 4, 5, 6, 7, 8, 9, 10, 11, 12, 13, 14] rfl rfl rfl 0 rfl rfl lX5_196 ⟨rfl, rfl, by decide, by decide⟩ rfl hl.1 (Nat.le_of_ble_eq_true rfl) rfl dX5_lift_27 (fun H locs hG => ?_)
      cases h
      exact hret _ _ _ _ hG dX5_lift_30 rfl
    · rw [if_pos c16] at h
      refine lv_bipush (v := (-2)) hx hb dX5_lift_19 (by decide) ?_
      refine lv_goto (tgt := 30) hx hb dX5_lift_21 (by decide) ?_
      cases h
      exact hret _ _ _ _ hG dX5_lift_30 rfl
  · rw [if_pos c5] at h
    refine lv_iconst (v := (-1)) hx hb dX5_lift_8 (by decide) ?_
    cases h
    exact hret _ _ _ _ hG dX5_lift_9 rfl
set_option maxRecDepth 100000 in
set_option maxHeartbeats 4000000 in
theorem cc_X5_mayLick {l : Launch} {D : va_G} {cI : ClassId} {tL : Nat} (ad : Nat → Nat) (deeds : Int32) (finding : Int32) (asked : Int32) (upper : Int64) (lower : Int64) (m_at : Int32) (wrong : Int32) (rowSize : Nat → Int32) (rows : Nat → Int32) (textSize : Nat → Int32) (texts : Nat → Int32) (spare : Nat → Int32) (now : Nat → Int32) (draft : Nat → Int32) (tried : Nat → Int32) (past : Nat → Int32) (kept : Nat → Int32) (keptPast : Nat → Int32) (keptDeeds : Nat → Int32) (findings : Nat → Int32) (worth : Nat → Int32) (x1 : Int32) (r' : Int32) (h : fX5_mayLick now x1 = some r') : Ci l D cI tL yX5_mayLick cX5_mayLick 2 .boolean rmX5_mayLick (wX5 cI ad deeds finding asked upper lower m_at wrong rowSize rows textSize texts spare now draft tried past kept keptPast keptDeeds findings worth) [.ref (ad 0), .int x1] r' (wX5 cI ad deeds finding asked upper lower m_at wrong rowSize rows textSize texts spare now draft tried past kept keptPast keptDeeds findings worth) := by
  refine Ci_of (own := RX5) (by decide) (Nat.le_of_ble_eq_true rfl) rfl ?_
  intro p e s m below meth c Q A AV hc hret ls hl hG
  obtain ⟨hx, hb, hml, hown, hts, hK, hA, hz⟩ := id hc
  have hl : lv_has ls 2 [(0, .ref (ad 0)), (1, .int x1)] := hl
  have hj_27 : fX5_mayLick_j27 = some r' → ∀ (ls : Array Slot) (H : Heap) (locs : List Loc), lv_has ls 2 [(0, .ref (ad 0))] → St D A s (wX5 cI ad deeds finding asked upper lower m_at wrong rowSize rows textSize texts spare now draft tried past kept keptPast keptDeeds findings worth) H locs → W p l e rmX5_mayLick s m AV below meth c H locs 0 0 Q (F0 m 27 ls []) := by
    intro  h ls H locs hl hG
    unfold fX5_mayLick_j27 at h
    refine lv_iconst (v := 1) hx hb dX5_mayLick_27 (by decide) ?_
    refine lv_goto (tgt := 32) hx hb dX5_mayLick_28 (by decide) ?_
    cases h
    exact hret _ _ _ _ hG dX5_mayLick_32 rfl
  unfold fX5_mayLick at h
  refine lv_aload_n hx hb dX5_mayLick_0 rfl (lv_at hl 0 rfl) ?_
  refine x_get hc hG 0 rfl iX5 5 lX5_25 rfl dX5_mayLick_1 ?_
  refine lv_iconst (v := 4) hx hb dX5_mayLick_4 (by decide) ?_
  obtain ⟨v5, e5, h⟩ := bd1_some h
  refine x_ald hc hG 6 rfl e5 dX5_mayLick_5 ?_
  refine lv_iload_n hx hb dX5_mayLick_6 rfl (lv_at hl 1 rfl) ?_
  obtain ⟨v7, e7, h⟩ := bd1_some h
  refine x_si0 (rest := []) hc hG (cc_X5_has v5 x1 v7 e7) lX5_140 ⟨rfl, rfl, by decide, by decide⟩ rfl hl.1 (Nat.le_of_ble_eq_true rfl) rfl dX5_mayLick_7 (fun H locs hG => ?_)
  refine lv_if_ne (tgt := 27) hx hb dX5_mayLick_10 (by decide) (fun c10 => ?_) (fun c10 => ?_)
  · rw [if_neg c10] at h
    exact hj_27  h _ _ _ (lv_sub hl [0] rfl) hG
  · rw [if_pos c10] at h
    refine lv_aload_n hx hb dX5_mayLick_13 rfl (lv_at hl 0 rfl) ?_
    refine x_get hc hG 0 rfl iX5 5 lX5_25 rfl dX5_mayLick_14 ?_
    refine lv_iconst (v := 4) hx hb dX5_mayLick_17 (by decide) ?_
    obtain ⟨v18, e18, h⟩ := bd1_some h
    refine x_ald hc hG 6 rfl e18 dX5_mayLick_18 ?_
    obtain ⟨v19, e19, h⟩ := bd1_some h
    refine x_si0 (rest := []) hc hG (cc_X5_ones v18 v19 e19) lX5_151 ⟨rfl, rfl, by decide, by decide⟩ rfl hl.1 (Nat.le_of_ble_eq_true rfl) rfl dX5_mayLick_19 (fun H locs hG => ?_)
    refine lv_bipush (v := 8) hx hb dX5_mayLick_22 (by decide) ?_
    refine lv_icmp_ge (tgt := 31) hx hb dX5_mayLick_24 (by decide) (fun c24 => ?_) (fun c24 => ?_)
    · rw [if_pos c24] at h
      refine lv_iconst (v := 0) hx hb dX5_mayLick_31 (by decide) ?_
      cases h
      exact hret _ _ _ _ hG dX5_mayLick_32 rfl
    · rw [if_neg c24] at h
      exact hj_27  h _ _ _ (lv_sub hl [0] rfl) hG
set_option maxRecDepth 100000 in
set_option maxHeartbeats 4000000 in
theorem cc_X5_lick {l : Launch} {D : va_G} {cI : ClassId} {tL : Nat} (ad : Nat → Nat) (deeds : Int32) (finding : Int32) (asked : Int32) (upper : Int64) (lower : Int64) (m_at : Int32) (wrong : Int32) (rowSize : Nat → Int32) (rows : Nat → Int32) (textSize : Nat → Int32) (texts : Nat → Int32) (spare : Nat → Int32) (now : Nat → Int32) (draft : Nat → Int32) (tried : Nat → Int32) (past : Nat → Int32) (kept : Nat → Int32) (keptPast : Nat → Int32) (keptDeeds : Nat → Int32) (findings : Nat → Int32) (worth : Nat → Int32) (x1 : Int32) (r' : Int32) (deeds' : Int32) (now' : Nat → Int32) (past' : Nat → Int32) (h : fX5_lick deeds now past x1 = some (r', deeds', now', past')) : Ci l D cI tL yX5_lick cX5_lick 2 .int rmX5_lick (wX5 cI ad deeds finding asked upper lower m_at wrong rowSize rows textSize texts spare now draft tried past kept keptPast keptDeeds findings worth) [.ref (ad 0), .int x1] r' (wX5 cI ad deeds' finding asked upper lower m_at wrong rowSize rows textSize texts spare now' draft tried past' kept keptPast keptDeeds findings worth) := by
  refine Ci_of (own := RX5) (by decide) (Nat.le_of_ble_eq_true rfl) rfl ?_
  intro p e s m below meth c Q A AV hc hret ls hl hG
  obtain ⟨hx, hb, hml, hown, hts, hK, hA, hz⟩ := id hc
  have hl : lv_has ls 2 [(0, .ref (ad 0)), (1, .int x1)] := hl
  unfold fX5_lick at h
  refine lv_iload_n hx hb dX5_lick_0 rfl (lv_at hl 1 rfl) ?_
  refine lv_iconst (v := 0) hx hb dX5_lick_1 (by decide) ?_
  refine lv_bipush (v := 15) hx hb dX5_lick_2 (by decide) ?_
  obtain ⟨v4, e4, h⟩ := bd1_some h
  refine x_si0 (rest := []) hc hG (cc_X5_in0 x1 0 15 v4 e4) lX5_63 ⟨rfl, rfl, by decide, by decide⟩ rfl hl.1 (Nat.le_of_ble_eq_true rfl) rfl dX5_lick_4 (fun H locs hG => ?_)
  refine lv_if_ne (tgt := 12) hx hb dX5_lick_7 (by decide) (fun c7 => ?_) (fun c7 => ?_)
  · rw [if_neg c7] at h
    refine lv_aload_n hx hb dX5_lick_12 rfl (lv_at hl 0 rfl) ?_
    obtain ⟨v13, e13, h⟩ := bd1_some h
    refine x_vi (rest := []) (ws' := (wX5 cI ad deeds finding asked upper lower m_at wrong rowSize rows textSize texts spare now draft tried past kept keptPast keptDeeds findings worth)) hc hG (cc_X5_isAny ad deeds finding asked upper lower m_at wrong rowSize rows textSize texts spare now draft tried past kept keptPast keptDeeds findings worth v13 e13) [0, 1, 2, 3, 4, 5, 6, 7, 8, 9, 10, 11, 12, 13, 14] [] [0, 1, 2, 3, 4, 5, 6, 7, 8, 9, 10, 11, 12, 13, 14] rfl rfl rfl 0 rfl rfl lX5_186 ⟨rfl, rfl, by decide, by decide⟩ rfl hl.1 (Nat.le_of_ble_eq_true rfl) rfl dX5_lick_13 (fun H locs hG => ?_)
    refine lv_if_eq (tgt := 27) hx hb dX5_lick_16 (by decide) (fun c16 => ?_) (fun c16 => ?_)
    · rw [if_pos c16] at h
      refine lv_bipush (v := (-4)) hx hb dX5_lick_27 (by decide) ?_
      cases h
      exact hret _ _ _ _ hG dX5_lick_29 rfl
    · rw [if_neg c16] at h
      refine lv_aload_n hx hb dX5_lick_19 rfl (lv_at hl 0 rfl) ?_
      refine lv_iload_n hx hb dX5_lick_20 rfl (lv_at hl 1 rfl) ?_
      obtain ⟨v21, e21, h⟩ := bd1_some h
      refine x_vi (rest := []) (ws' := (wX5 cI ad deeds finding asked upper lower m_at wrong rowSize rows textSize texts spare now draft tried past kept keptPast keptDeeds findings worth)) hc hG (cc_X5_mayLick ad deeds finding asked upper lower m_at wrong rowSize rows textSize texts spare now draft tried past kept keptPast keptDeeds findings worth x1 v21 e21) [0, 1, 2, 3, 4, 5, 6, 7, 8, 9, 10, 11, 12, 13, 14] [] [0, 1, 2, 3, 4, 5, 6, 7, 8, 9, 10, 11, 12, 13, 14] rfl rfl rfl 0 rfl rfl lX5_199 ⟨rfl, rfl, by decide, by decide⟩ rfl hl.1 (Nat.le_of_ble_eq_true rfl) rfl dX5_lick_21 (fun H locs hG => ?_)
      refine lv_if_ne (tgt := 30) hx hb dX5_lick_24 (by decide) (fun c24 => ?_) (fun c24 => ?_)
      · rw [if_neg c24] at h
        refine lv_aload_n hx hb dX5_lick_30 rfl (lv_at hl 0 rfl) ?_
        refine x_get hc hG 0 rfl iX5 9 lX5_124 rfl dX5_lick_31 ?_
        refine lv_bipush (v := 40) hx hb dX5_lick_34 (by decide) ?_
        refine lv_icmp_ne (tgt := 42) hx hb dX5_lick_36 (by decide) (fun c36 => ?_) (fun c36 => ?_)
        · rw [if_neg c36] at h
          refine lv_aload_n hx hb dX5_lick_42 rfl (lv_at hl 0 rfl) ?_
          obtain ⟨deeds_43, past_43, e43, h⟩ := bd2_some h
          refine x_vv (rest := []) (ws' := (wX5 cI ad deeds_43 finding asked upper lower m_at wrong rowSize rows textSize texts spare now draft tried past_43 kept keptPast keptDeeds findings worth)) hc hG (cc_X5_notes ad deeds finding asked upper lower m_at wrong rowSize rows textSize texts spare now draft tried past kept keptPast keptDeeds findings worth deeds_43 past_43 e43) [0, 1, 2, 3, 4, 5, 6, 7, 8, 9, 10, 11, 12, 13, 14] [] [0, 1, 2, 3, 4, 5, 6, 7, 8, 9, 10, 11, 12, 13, 14] rfl rfl rfl 0 rfl rfl lX5_190 ⟨rfl, rfl, by decide, by decide⟩ rfl hl.1 (Nat.le_of_ble_eq_true rfl) rfl dX5_lick_43 (fun H locs hG => ?_)
          refine lv_aload_n hx hb dX5_lick_46 rfl (lv_at hl 0 rfl) ?_
          refine x_get hc hG 0 rfl iX5 5 lX5_25 rfl dX5_lick_47 ?_
          refine lv_iconst (v := 4) hx hb dX5_lick_50 (by decide) ?_
          refine lv_dup2_11 hx hb dX5_lick_51 rfl rfl ?_
          obtain ⟨v52, e52, h⟩ := bd1_some h
          refine x_ald hc hG 6 rfl e52 dX5_lick_52 ?_
          refine lv_iconst (v := 1) hx hb dX5_lick_53 (by decide) ?_
          refine lv_iload_n hx hb dX5_lick_54 rfl (lv_at hl 1 rfl) ?_
          refine lv_ishl hx hb dX5_lick_55 ?_
          refine lv_ixor hx hb dX5_lick_56 ?_
          obtain ⟨now_57, e57, h⟩ := bd1_some h
          refine x_ast (ws' := (wX5 cI ad deeds_43 finding asked upper lower m_at wrong rowSize rows textSize texts spare now_57 draft tried past_43 kept keptPast keptDeeds findings worth)) hc hG 6 rfl e57 rfl dX5_lick_57 (fun H locs hG => ?_)
          refine lv_aload_n hx hb dX5_lick_58 rfl (lv_at hl 0 rfl) ?_
          refine x_get hc hG 0 rfl iX5 5 lX5_25 rfl dX5_lick_59 ?_
          refine lv_iconst (v := 4) hx hb dX5_lick_62 (by decide) ?_
          obtain ⟨v63, e63, h⟩ := bd1_some h
          refine x_ald hc hG 6 rfl e63 dX5_lick_63 ?_
          refine lv_iload_n hx hb dX5_lick_64 rfl (lv_at hl 1 rfl) ?_
          refine lv_ishr hx hb dX5_lick_65 ?_
          refine lv_iconst (v := 1) hx hb dX5_lick_66 (by decide) ?_
          refine lv_iand hx hb dX5_lick_67 ?_
          cases h
          exact hret _ _ _ _ hG dX5_lick_68 rfl
        · rw [if_pos c36] at h
          refine lv_bipush (v := (-2)) hx hb dX5_lick_39 (by decide) ?_
          cases h
          exact hret _ _ _ _ hG dX5_lick_41 rfl
      · rw [if_pos c24] at h
        refine lv_bipush (v := (-4)) hx hb dX5_lick_27 (by decide) ?_
        cases h
        exact hret _ _ _ _ hG dX5_lick_29 rfl
  · rw [if_pos c7] at h
    refine lv_iconst (v := (-1)) hx hb dX5_lick_10 (by decide) ?_
    cases h
    exact hret _ _ _ _ hG dX5_lick_11 rfl
set_option maxRecDepth 100000 in
set_option maxHeartbeats 4000000 in
theorem cc_X5_undo {l : Launch} {D : va_G} {cI : ClassId} {tL : Nat} (ad : Nat → Nat) (deeds : Int32) (finding : Int32) (asked : Int32) (upper : Int64) (lower : Int64) (m_at : Int32) (wrong : Int32) (rowSize : Nat → Int32) (rows : Nat → Int32) (textSize : Nat → Int32) (texts : Nat → Int32) (spare : Nat → Int32) (now : Nat → Int32) (draft : Nat → Int32) (tried : Nat → Int32) (past : Nat → Int32) (kept : Nat → Int32) (keptPast : Nat → Int32) (keptDeeds : Nat → Int32) (findings : Nat → Int32) (worth : Nat → Int32) (x1 : Int32) (r' : Int32) (deeds' : Int32) (now' : Nat → Int32) (h : fX5_undo deeds now past x1 = some (r', deeds', now')) : Ci l D cI tL yX5_undo cX5_undo 3 .int rmX5_undo (wX5 cI ad deeds finding asked upper lower m_at wrong rowSize rows textSize texts spare now draft tried past kept keptPast keptDeeds findings worth) [.ref (ad 0), .int x1] r' (wX5 cI ad deeds' finding asked upper lower m_at wrong rowSize rows textSize texts spare now' draft tried past kept keptPast keptDeeds findings worth) := by
  refine Ci_of (own := RX5) (by decide) (Nat.le_of_ble_eq_true rfl) rfl ?_
  intro p e s m below meth c Q A AV hc hret ls hl hG
  obtain ⟨hx, hb, hml, hown, hts, hK, hA, hz⟩ := id hc
  have hl : lv_has ls 3 [(0, .ref (ad 0)), (1, .int x1)] := hl
  have hj_43 : ∀ (now : Nat → Int32) (x1 : Int32) (x2 : Int32) (deeds : Int32), fX5_undo_j43 now x1 x2 = some (r', deeds', now') → ∀ (ls : Array Slot) (H : Heap) (locs : List Loc), lv_has ls 3 [(0, .ref (ad 0)), (1, .int x1), (2, .int x2)] → St D A s (wX5 cI ad deeds finding asked upper lower m_at wrong rowSize rows textSize texts spare now draft tried past kept keptPast keptDeeds findings worth) H locs → W p l e rmX5_undo s m AV below meth c H locs 0 0 Q (F0 m 43 ls []) := by
    intro now x1 x2 deeds h ls H locs hl hG
    unfold fX5_undo_j43 at h
    refine lv_aload_n hx hb dX5_undo_43 rfl (lv_at hl 0 rfl) ?_
    refine lv_iload_n hx hb dX5_undo_44 rfl (lv_at hl 1 rfl) ?_
    refine x_put (ws' := (wX5 cI ad x1 finding asked upper lower m_at wrong rowSize rows textSize texts spare now draft tried past kept keptPast keptDeeds findings worth)) hc hG 0 rfl iX5 tyX5 tyX5_ok nmX5 9 lX5_124 rfl rfl rfl (Nat.le_of_ble_eq_true rfl) rfl dX5_undo_45 (fun H locs hG => ?_)
    refine lv_iload_n hx hb dX5_undo_48 rfl (lv_at hl 2 rfl) ?_
    cases h
    exact hret _ _ _ _ hG dX5_undo_49 rfl
  unfold fX5_undo at h
  refine lv_iload_n hx hb dX5_undo_0 rfl (lv_at hl 1 rfl) ?_
  refine lv_iconst (v := 0) hx hb dX5_undo_1 (by decide) ?_
  refine lv_aload_n hx hb dX5_undo_2 rfl (lv_at hl 0 rfl) ?_
  refine x_get hc hG 0 rfl iX5 9 lX5_124 rfl dX5_undo_3 ?_
  obtain ⟨v6, e6, h⟩ := bd1_some h
  refine x_si0 (rest := []) hc hG (cc_X5_in0 x1 0 deeds v6 e6) lX5_63 ⟨rfl, rfl, by decide, by decide⟩ rfl hl.1 (Nat.le_of_ble_eq_true rfl) rfl dX5_undo_6 (fun H locs hG => ?_)
  refine lv_if_ne (tgt := 14) hx hb dX5_undo_9 (by decide) (fun c9 => ?_) (fun c9 => ?_)
  · rw [if_neg c9] at h
    refine lv_aload_n hx hb dX5_undo_14 rfl (lv_at hl 0 rfl) ?_
    refine x_get hc hG 0 rfl iX5 9 lX5_124 rfl dX5_undo_15 ?_
    refine lv_iload_n hx hb dX5_undo_18 rfl (lv_at hl 1 rfl) ?_
    refine lv_isub hx hb dX5_undo_19 ?_
    refine lv_istore_n (lv' := [(2, .int (deeds - x1)), (0, .ref (ad 0)), (1, .int x1)]) hx hb dX5_undo_20 rfl hl (by decide) rfl (fun ls hl => ?_)
    refine lv_iload_n hx hb dX5_undo_21 rfl (lv_at hl 0 rfl) ?_
    refine lv_if_le (tgt := 43) hx hb dX5_undo_22 (by decide) (fun c22 => ?_) (fun c22 => ?_)
    · rw [if_pos c22] at h
      exact hj_43 _ _ _ _ h _ _ _ (lv_sub hl [1, 2, 0] rfl) hG
    · rw [if_neg c22] at h
      refine lv_aload_n hx hb dX5_undo_25 rfl (lv_at hl 1 rfl) ?_
      refine x_get hc hG 0 rfl iX5 8 lX5_34 rfl dX5_undo_26 ?_
      refine lv_bipush (v := 35) hx hb dX5_undo_29 (by decide) ?_
      refine lv_iload_n hx hb dX5_undo_31 rfl (lv_at hl 2 rfl) ?_
      refine lv_imul hx hb dX5_undo_32 ?_
      refine lv_aload_n hx hb dX5_undo_33 rfl (lv_at hl 1 rfl) ?_
      refine x_get hc hG 0 rfl iX5 5 lX5_25 rfl dX5_undo_34 ?_
      refine lv_iconst (v := 0) hx hb dX5_undo_37 (by decide) ?_
      refine lv_bipush (v := 35) hx hb dX5_undo_38 (by decide) ?_
      obtain ⟨now_40, e40, h⟩ := bd1_some h
      refine x_sv (rest := []) (ws' := (wX5 cI ad deeds finding asked upper lower m_at wrong rowSize rows textSize texts spare now_40 draft tried past kept keptPast keptDeeds findings worth)) hc hG (cc_X5_copies (fun k => match k with | 0 => ad 9 | _ => ad 6) 1400 35 past now (35 * x1) 0 35 now_40 e40) [9, 6] [0, 1, 2, 3, 4, 5, 7, 8, 10, 11, 12, 13, 14] [0, 1, 2, 3, 4, 5, 14, 6, 7, 13, 8, 9, 10, 11, 12] rfl rfl rfl lX5_120 ⟨rfl, rfl, by decide, by decide⟩ rfl hl.1 (Nat.le_of_ble_eq_true rfl) rfl dX5_undo_40 (fun H locs hG => ?_)
      exact hj_43 _ _ _ _ h _ _ _ (lv_sub hl [1, 2, 0] rfl) hG
  · rw [if_pos c9] at h
    refine lv_iconst (v := (-1)) hx hb dX5_undo_12 (by decide) ?_
    cases h
    exact hret _ _ _ _ hG dX5_undo_13 rfl
set_option maxRecDepth 100000 in
set_option maxHeartbeats 4000000 in
theorem cc_X5_keep {l : Launch} {D : va_G} {cI : ClassId} {tL : Nat} (ad : Nat → Nat) (deeds : Int32) (finding : Int32) (asked : Int32) (upper : Int64) (lower : Int64) (m_at : Int32) (wrong : Int32) (rowSize : Nat → Int32) (rows : Nat → Int32) (textSize : Nat → Int32) (texts : Nat → Int32) (spare : Nat → Int32) (now : Nat → Int32) (draft : Nat → Int32) (tried : Nat → Int32) (past : Nat → Int32) (kept : Nat → Int32) (keptPast : Nat → Int32) (keptDeeds : Nat → Int32) (findings : Nat → Int32) (worth : Nat → Int32) (x1 : Int32) (r' : Int32) (kept' : Nat → Int32) (keptPast' : Nat → Int32) (keptDeeds' : Nat → Int32) (h : fX5_keep deeds now past kept keptPast keptDeeds x1 = some (r', kept', keptPast', keptDeeds')) : Ci l D cI tL yX5_keep cX5_keep 2 .int rmX5_keep (wX5 cI ad deeds finding asked upper lower m_at wrong rowSize rows textSize texts spare now draft tried past kept keptPast keptDeeds findings worth) [.ref (ad 0), .int x1] r' (wX5 cI ad deeds finding asked upper lower m_at wrong rowSize rows textSize texts spare now draft tried past kept' keptPast' keptDeeds' findings worth) := by
  refine Ci_of (own := RX5) (by decide) (Nat.le_of_ble_eq_true rfl) rfl ?_
  intro p e s m below meth c Q A AV hc hret ls hl hG
  obtain ⟨hx, hb, hml, hown, hts, hK, hA, hz⟩ := id hc
  have hl : lv_has ls 2 [(0, .ref (ad 0)), (1, .int x1)] := hl
  unfold fX5_keep at h
  refine lv_iload_n hx hb dX5_keep_0 rfl (lv_at hl 1 rfl) ?_
  refine lv_iconst (v := 0) hx hb dX5_keep_1 (by decide) ?_
  refine lv_iconst (v := 2) hx hb dX5_keep_2 (by decide) ?_
  obtain ⟨v3, e3, h⟩ := bd1_some h
  refine x_si0 (rest := []) hc hG (cc_X5_in0 x1 0 2 v3 e3) lX5_63 ⟨rfl, rfl, by decide, by decide⟩ rfl hl.1 (Nat.le_of_ble_eq_true rfl) rfl dX5_keep_3 (fun H locs hG => ?_)
  refine lv_if_ne (tgt := 11) hx hb dX5_keep_6 (by decide) (fun c6 => ?_) (fun c6 => ?_)
  · rw [if_neg c6] at h
    refine lv_aload_n hx hb dX5_keep_11 rfl (lv_at hl 0 rfl) ?_
    obtain ⟨v12, e12, h⟩ := bd1_some h
    refine x_vi (rest := []) (ws' := (wX5 cI ad deeds finding asked upper lower m_at wrong rowSize rows textSize texts spare now draft tried past kept keptPast keptDeeds findings worth)) hc hG (cc_X5_isAny ad deeds finding asked upper lower m_at wrong rowSize rows textSize texts spare now draft tried past kept keptPast keptDeeds findings worth v12 e12) [0, 1, 2, 3, 4, 5, 6, 7, 8, 9, 10, 11, 12, 13, 14] [] [0, 1, 2, 3, 4, 5, 6, 7, 8, 9, 10, 11, 12, 13, 14] rfl rfl rfl 0 rfl rfl lX5_186 ⟨rfl, rfl, by decide, by decide⟩ rfl hl.1 (Nat.le_of_ble_eq_true rfl) rfl dX5_keep_12 (fun H locs hG => ?_)
    refine lv_if_ne (tgt := 21) hx hb dX5_keep_15 (by decide) (fun c15 => ?_) (fun c15 => ?_)
    · rw [if_neg c15] at h
      refine lv_aload_n hx hb dX5_keep_21 rfl (lv_at hl 0 rfl) ?_
      refine x_get hc hG 0 rfl iX5 5 lX5_25 rfl dX5_keep_22 ?_
      refine lv_iconst (v := 0) hx hb dX5_keep_25 (by decide) ?_
      refine lv_aload_n hx hb dX5_keep_26 rfl (lv_at hl 0 rfl) ?_
      refine x_get hc hG 0 rfl iX5 10 lX5_37 rfl dX5_keep_27 ?_
      refine lv_bipush (v := 35) hx hb dX5_keep_30 (by decide) ?_
      refine lv_iload_n hx hb dX5_keep_32 rfl (lv_at hl 1 rfl) ?_
      refine lv_imul hx hb dX5_keep_33 ?_
      refine lv_bipush (v := 35) hx hb dX5_keep_34 (by decide) ?_
      obtain ⟨kept_36, e36, h⟩ := bd1_some h
      refine x_sv (rest := []) (ws' := (wX5 cI ad deeds finding asked upper lower m_at wrong rowSize rows textSize texts spare now draft tried past kept_36 keptPast keptDeeds findings worth)) hc hG (cc_X5_copies (fun k => match k with | 0 => ad 6 | _ => ad 10) 35 105 now kept 0 (35 * x1) 35 kept_36 e36) [6, 10] [0, 1, 2, 3, 4, 5, 7, 8, 9, 11, 12, 13, 14] [0, 1, 2, 3, 4, 5, 13, 6, 7, 8, 14, 9, 10, 11, 12] rfl rfl rfl lX5_120 ⟨rfl, rfl, by decide, by decide⟩ rfl hl.1 (Nat.le_of_ble_eq_true rfl) rfl dX5_keep_36 (fun H locs hG => ?_)
      refine lv_aload_n hx hb dX5_keep_39 rfl (lv_at hl 0 rfl) ?_
      refine x_get hc hG 0 rfl iX5 8 lX5_34 rfl dX5_keep_40 ?_
      refine lv_iconst (v := 0) hx hb dX5_keep_43 (by decide) ?_
      refine lv_aload_n hx hb dX5_keep_44 rfl (lv_at hl 0 rfl) ?_
      refine x_get hc hG 0 rfl iX5 11 lX5_40 rfl dX5_keep_45 ?_
      refine lv_sipush (v := 1400) hx hb dX5_keep_48 (by decide) ?_
      refine lv_iload_n hx hb dX5_keep_51 rfl (lv_at hl 1 rfl) ?_
      refine lv_imul hx hb dX5_keep_52 ?_
      refine lv_sipush (v := 1400) hx hb dX5_keep_53 (by decide) ?_
      obtain ⟨keptPast_56, e56, h⟩ := bd1_some h
      refine x_sv (rest := []) (ws' := (wX5 cI ad deeds finding asked upper lower m_at wrong rowSize rows textSize texts spare now draft tried past kept_36 keptPast_56 keptDeeds findings worth)) hc hG (cc_X5_copies (fun k => match k with | 0 => ad 9 | _ => ad 11) 1400 4200 past keptPast 0 (1400 * x1) 1400 keptPast_56 e56) [9, 11] [0, 1, 2, 3, 4, 5, 6, 7, 8, 10, 12, 13, 14] [0, 1, 2, 3, 4, 5, 6, 7, 8, 13, 9, 14, 10, 11, 12] rfl rfl rfl lX5_120 ⟨rfl, rfl, by decide, by decide⟩ rfl hl.1 (Nat.le_of_ble_eq_true rfl) rfl dX5_keep_56 (fun H locs hG => ?_)
      refine lv_aload_n hx hb dX5_keep_59 rfl (lv_at hl 0 rfl) ?_
      refine x_get hc hG 0 rfl iX5 12 lX5_43 rfl dX5_keep_60 ?_
      refine lv_iload_n hx hb dX5_keep_63 rfl (lv_at hl 1 rfl) ?_
      refine lv_aload_n hx hb dX5_keep_64 rfl (lv_at hl 0 rfl) ?_
      refine x_get hc hG 0 rfl iX5 9 lX5_124 rfl dX5_keep_65 ?_
      obtain ⟨keptDeeds_68, e68, h⟩ := bd1_some h
      refine x_ast (ws' := (wX5 cI ad deeds finding asked upper lower m_at wrong rowSize rows textSize texts spare now draft tried past kept_36 keptPast_56 keptDeeds_68 findings worth)) hc hG 12 rfl e68 rfl dX5_keep_68 (fun H locs hG => ?_)
      refine lv_aload_n hx hb dX5_keep_69 rfl (lv_at hl 0 rfl) ?_
      refine x_get hc hG 0 rfl iX5 9 lX5_124 rfl dX5_keep_70 ?_
      cases h
      exact hret _ _ _ _ hG dX5_keep_73 rfl
    · rw [if_pos c15] at h
      refine lv_bipush (v := (-4)) hx hb dX5_keep_18 (by decide) ?_
      cases h
      exact hret _ _ _ _ hG dX5_keep_20 rfl
  · rw [if_pos c6] at h
    refine lv_iconst (v := (-1)) hx hb dX5_keep_9 (by decide) ?_
    cases h
    exact hret _ _ _ _ hG dX5_keep_10 rfl
set_option maxRecDepth 100000 in
set_option maxHeartbeats 4000000 in
theorem cc_X5_on {l : Launch} {D : va_G} {cI : ClassId} {tL : Nat} (ad : Nat → Nat) (deeds : Int32) (finding : Int32) (asked : Int32) (upper : Int64) (lower : Int64) (m_at : Int32) (wrong : Int32) (rowSize : Nat → Int32) (rows : Nat → Int32) (textSize : Nat → Int32) (texts : Nat → Int32) (spare : Nat → Int32) (now : Nat → Int32) (draft : Nat → Int32) (tried : Nat → Int32) (past : Nat → Int32) (kept : Nat → Int32) (keptPast : Nat → Int32) (keptDeeds : Nat → Int32) (findings : Nat → Int32) (worth : Nat → Int32) (x1 : Int32) (r' : Int32) (deeds' : Int32) (finding' : Int32) (now' : Nat → Int32) (past' : Nat → Int32) (findings' : Nat → Int32) (h : fX5_on deeds finding now past kept keptPast keptDeeds findings x1 = some (r', deeds', finding', now', past', findings')) : Ci l D cI tL yX5_on cX5_on 2 .int rmX5_on (wX5 cI ad deeds finding asked upper lower m_at wrong rowSize rows textSize texts spare now draft tried past kept keptPast keptDeeds findings worth) [.ref (ad 0), .int x1] r' (wX5 cI ad deeds' finding' asked upper lower m_at wrong rowSize rows textSize texts spare now' draft tried past' kept keptPast keptDeeds findings' worth) := by
  refine Ci_of (own := RX5) (by decide) (Nat.le_of_ble_eq_true rfl) rfl ?_
  intro p e s m below meth c Q A AV hc hret ls hl hG
  obtain ⟨hx, hb, hml, hown, hts, hK, hA, hz⟩ := id hc
  have hl : lv_has ls 2 [(0, .ref (ad 0)), (1, .int x1)] := hl
  unfold fX5_on at h
  refine lv_iload_n hx hb dX5_on_0 rfl (lv_at hl 1 rfl) ?_
  refine lv_iconst (v := 0) hx hb dX5_on_1 (by decide) ?_
  refine lv_iconst (v := 2) hx hb dX5_on_2 (by decide) ?_
  obtain ⟨v3, e3, h⟩ := bd1_some h
  refine x_si0 (rest := []) hc hG (cc_X5_in0 x1 0 2 v3 e3) lX5_63 ⟨rfl, rfl, by decide, by decide⟩ rfl hl.1 (Nat.le_of_ble_eq_true rfl) rfl dX5_on_3 (fun H locs hG => ?_)
  refine lv_if_ne (tgt := 11) hx hb dX5_on_6 (by decide) (fun c6 => ?_) (fun c6 => ?_)
  · rw [if_neg c6] at h
    refine lv_aload_n hx hb dX5_on_11 rfl (lv_at hl 0 rfl) ?_
    refine x_get hc hG 0 rfl iX5 12 lX5_43 rfl dX5_on_12 ?_
    refine lv_iload_n hx hb dX5_on_15 rfl (lv_at hl 1 rfl) ?_
    obtain ⟨v16, e16, h⟩ := bd1_some h
    refine x_ald hc hG 12 rfl e16 dX5_on_16 ?_
    refine lv_bipush (v := (-9)) hx hb dX5_on_17 (by decide) ?_
    refine lv_icmp_ne (tgt := 28) hx hb dX5_on_19 (by decide) (fun c19 => ?_) (fun c19 => ?_)
    · rw [if_neg c19] at h
      refine lv_aload_n hx hb dX5_on_28 rfl (lv_at hl 0 rfl) ?_
      refine x_get hc hG 0 rfl iX5 10 lX5_37 rfl dX5_on_29 ?_
      refine lv_bipush (v := 35) hx hb dX5_on_32 (by decide) ?_
      refine lv_iload_n hx hb dX5_on_34 rfl (lv_at hl 1 rfl) ?_
      refine lv_imul hx hb dX5_on_35 ?_
      refine lv_aload_n hx hb dX5_on_36 rfl (lv_at hl 0 rfl) ?_
      refine x_get hc hG 0 rfl iX5 5 lX5_25 rfl dX5_on_37 ?_
      refine lv_iconst (v := 0) hx hb dX5_on_40 (by decide) ?_
      refine lv_bipush (v := 35) hx hb dX5_on_41 (by decide) ?_
      obtain ⟨now_43, e43, h⟩ := bd1_some h
      refine x_sv (rest := []) (ws' := (wX5 cI ad deeds finding asked upper lower m_at wrong rowSize rows textSize texts spare now_43 draft tried past kept keptPast keptDeeds findings worth)) hc hG (cc_X5_copies (fun k => match k with | 0 => ad 10 | _ => ad 6) 105 35 kept now (35 * x1) 0 35 now_43 e43) [10, 6] [0, 1, 2, 3, 4, 5, 7, 8, 9, 11, 12, 13, 14] [0, 1, 2, 3, 4, 5, 14, 6, 7, 8, 13, 9, 10, 11, 12] rfl rfl rfl lX5_120 ⟨rfl, rfl, by decide, by decide⟩ rfl hl.1 (Nat.le_of_ble_eq_true rfl) rfl dX5_on_43 (fun H locs hG => ?_)
      refine lv_aload_n hx hb dX5_on_46 rfl (lv_at hl 0 rfl) ?_
      refine x_get hc hG 0 rfl iX5 11 lX5_40 rfl dX5_on_47 ?_
      refine lv_sipush (v := 1400) hx hb dX5_on_50 (by decide) ?_
      refine lv_iload_n hx hb dX5_on_53 rfl (lv_at hl 1 rfl) ?_
      refine lv_imul hx hb dX5_on_54 ?_
      refine lv_aload_n hx hb dX5_on_55 rfl (lv_at hl 0 rfl) ?_
      refine x_get hc hG 0 rfl iX5 8 lX5_34 rfl dX5_on_56 ?_
      refine lv_iconst (v := 0) hx hb dX5_on_59 (by decide) ?_
      refine lv_sipush (v := 1400) hx hb dX5_on_60 (by decide) ?_
      obtain ⟨past_63, e63, h⟩ := bd1_some h
      refine x_sv (rest := []) (ws' := (wX5 cI ad deeds finding asked upper lower m_at wrong rowSize rows textSize texts spare now_43 draft tried past_63 kept keptPast keptDeeds findings worth)) hc hG (cc_X5_copies (fun k => match k with | 0 => ad 11 | _ => ad 9) 4200 1400 keptPast past (1400 * x1) 0 1400 past_63 e63) [11, 9] [0, 1, 2, 3, 4, 5, 6, 7, 8, 10, 12, 13, 14] [0, 1, 2, 3, 4, 5, 6, 7, 8, 14, 9, 13, 10, 11, 12] rfl rfl rfl lX5_120 ⟨rfl, rfl, by decide, by decide⟩ rfl hl.1 (Nat.le_of_ble_eq_true rfl) rfl dX5_on_63 (fun H locs hG => ?_)
      refine lv_aload_n hx hb dX5_on_66 rfl (lv_at hl 0 rfl) ?_
      refine lv_aload_n hx hb dX5_on_67 rfl (lv_at hl 0 rfl) ?_
      refine x_get hc hG 0 rfl iX5 12 lX5_43 rfl dX5_on_68 ?_
      refine lv_iload_n hx hb dX5_on_71 rfl (lv_at hl 1 rfl) ?_
      obtain ⟨v72, e72, h⟩ := bd1_some h
      refine x_ald hc hG 12 rfl e72 dX5_on_72 ?_
      refine x_put (ws' := (wX5 cI ad v72 finding asked upper lower m_at wrong rowSize rows textSize texts spare now_43 draft tried past_63 kept keptPast keptDeeds findings worth)) hc hG 0 rfl iX5 tyX5 tyX5_ok nmX5 9 lX5_124 rfl rfl rfl (Nat.le_of_ble_eq_true rfl) rfl dX5_on_73 (fun H locs hG => ?_)
      refine lv_aload_n hx hb dX5_on_76 rfl (lv_at hl 0 rfl) ?_
      refine x_get hc hG 0 rfl iX5 9 lX5_124 rfl dX5_on_77 ?_
      cases h
      exact hret _ _ _ _ hG dX5_on_80 rfl
    · rw [if_pos c19] at h
      refine lv_aload_n hx hb dX5_on_22 rfl (lv_at hl 0 rfl) ?_
      refine lv_iconst (v := 1) hx hb dX5_on_23 (by decide) ?_
      obtain ⟨v24, finding_24, findings_24, e24, h⟩ := bd3_some h
      refine x_vi (rest := []) (ws' := (wX5 cI ad deeds finding_24 asked upper lower m_at wrong rowSize rows textSize texts spare now draft tried past kept keptPast keptDeeds findings_24 worth)) hc hG (cc_X5_found0 ad deeds finding asked upper lower m_at wrong rowSize rows textSize texts spare now draft tried past kept keptPast keptDeeds findings worth 1 v24 finding_24 findings_24 e24) [0, 1, 2, 3, 4, 5, 6, 7, 8, 9, 10, 11, 12, 13, 14] [] [0, 1, 2, 3, 4, 5, 6, 7, 8, 9, 10, 11, 12, 13, 14] rfl rfl rfl 0 rfl rfl lX5_71 ⟨rfl, rfl, by decide, by decide⟩ rfl hl.1 (Nat.le_of_ble_eq_true rfl) rfl dX5_on_24 (fun H locs hG => ?_)
      cases h
      exact hret _ _ _ _ hG dX5_on_27 rfl
  · rw [if_pos c6] at h
    refine lv_iconst (v := (-1)) hx hb dX5_on_9 (by decide) ?_
    cases h
    exact hret _ _ _ _ hG dX5_on_10 rfl
set_option maxRecDepth 100000 in
set_option maxHeartbeats 4000000 in
theorem cc_X5_covers {l : Launch} {D : va_G} {cI : ClassId} {tL : Nat} (ad : Nat → Nat) (deeds : Int32) (finding : Int32) (asked : Int32) (upper : Int64) (lower : Int64) (m_at : Int32) (wrong : Int32) (rowSize : Nat → Int32) (rows : Nat → Int32) (textSize : Nat → Int32) (texts : Nat → Int32) (spare : Nat → Int32) (now : Nat → Int32) (draft : Nat → Int32) (tried : Nat → Int32) (past : Nat → Int32) (kept : Nat → Int32) (keptPast : Nat → Int32) (keptDeeds : Nat → Int32) (findings : Nat → Int32) (worth : Nat → Int32) (x1 : Int32) (x2 : Int32) (x3 : Int32) (r' : Int32) (h : fX5_covers now x1 x2 x3 = some r') : Ci l D cI tL yX5_covers cX5_covers 4 .int rmX5_covers (wX5 cI ad deeds finding asked upper lower m_at wrong rowSize rows textSize texts spare now draft tried past kept keptPast keptDeeds findings worth) [.ref (ad 0), .int x1, .int x2, .int x3] r' (wX5 cI ad deeds finding asked upper lower m_at wrong rowSize rows textSize texts spare now draft tried past kept keptPast keptDeeds findings worth) := by
  refine Ci_of (own := RX5) (by decide) (Nat.le_of_ble_eq_true rfl) rfl ?_
  intro p e s m below meth c Q A AV hc hret ls hl hG
  obtain ⟨hx, hb, hml, hown, hts, hK, hA, hz⟩ := id hc
  have hl : lv_has ls 4 [(0, .ref (ad 0)), (1, .int x1), (2, .int x2), (3, .int x3)] := hl
  unfold fX5_covers at h
  refine lv_aload_n hx hb dX5_covers_0 rfl (lv_at hl 0 rfl) ?_
  refine lv_iload_n hx hb dX5_covers_1 rfl (lv_at hl 1 rfl) ?_
  obtain ⟨v2, e2, h⟩ := bd1_some h
  refine x_vi (rest := []) (ws' := (wX5 cI ad deeds finding asked upper lower m_at wrong rowSize rows textSize texts spare now draft tried past kept keptPast keptDeeds findings worth)) hc hG (cc_X5_isPeel ad deeds finding asked upper lower m_at wrong rowSize rows textSize texts spare now draft tried past kept keptPast keptDeeds findings worth x1 v2 e2) [0, 1, 2, 3, 4, 5, 6, 7, 8, 9, 10, 11, 12, 13, 14] [] [0, 1, 2, 3, 4, 5, 6, 7, 8, 9, 10, 11, 12, 13, 14] rfl rfl rfl 0 rfl rfl lX5_170 ⟨rfl, rfl, by decide, by decide⟩ rfl hl.1 (Nat.le_of_ble_eq_true rfl) rfl dX5_covers_2 (fun H locs hG => ?_)
  refine lv_if_eq (tgt := 27) hx hb dX5_covers_5 (by decide) (fun c5 => ?_) (fun c5 => ?_)
  · rw [if_pos c5] at h
    refine lv_iconst (v := (-1)) hx hb dX5_covers_27 (by decide) ?_
    cases h
    exact hret _ _ _ _ hG dX5_covers_28 rfl
  · rw [if_neg c5] at h
    refine lv_iload_n hx hb dX5_covers_8 rfl (lv_at hl 2 rfl) ?_
    refine lv_iconst (v := 0) hx hb dX5_covers_9 (by decide) ?_
    refine lv_bipush (v := 15) hx hb dX5_covers_10 (by decide) ?_
    obtain ⟨v12, e12, h⟩ := bd1_some h
    refine x_si0 (rest := []) hc hG (cc_X5_in0 x2 0 15 v12 e12) lX5_63 ⟨rfl, rfl, by decide, by decide⟩ rfl hl.1 (Nat.le_of_ble_eq_true rfl) rfl dX5_covers_12 (fun H locs hG => ?_)
    refine lv_if_eq (tgt := 27) hx hb dX5_covers_15 (by decide) (fun c15 => ?_) (fun c15 => ?_)
    · rw [if_pos c15] at h
      refine lv_iconst (v := (-1)) hx hb dX5_covers_27 (by decide) ?_
      cases h
      exact hret _ _ _ _ hG dX5_covers_28 rfl
    · rw [if_neg c15] at h
      refine lv_iload_n hx hb dX5_covers_18 rfl (lv_at hl 3 rfl) ?_
      refine lv_iconst (v := 0) hx hb dX5_covers_19 (by decide) ?_
      refine lv_iconst (v := 1) hx hb dX5_covers_20 (by decide) ?_
      obtain ⟨v21, e21, h⟩ := bd1_some h
      refine x_si0 (rest := []) hc hG (cc_X5_in0 x3 0 1 v21 e21) lX5_63 ⟨rfl, rfl, by decide, by decide⟩ rfl hl.1 (Nat.le_of_ble_eq_true rfl) rfl dX5_covers_21 (fun H locs hG => ?_)
      refine lv_if_ne (tgt := 29) hx hb dX5_covers_24 (by decide) (fun c24 => ?_) (fun c24 => ?_)
      · rw [if_neg c24] at h
        refine lv_aload_n hx hb dX5_covers_29 rfl (lv_at hl 0 rfl) ?_
        refine x_get hc hG 0 rfl iX5 5 lX5_25 rfl dX5_covers_30 ?_
        refine lv_iconst (v := 5) hx hb dX5_covers_33 (by decide) ?_
        refine lv_iconst (v := 5) hx hb dX5_covers_34 (by decide) ?_
        refine lv_iload_n hx hb dX5_covers_35 rfl (lv_at hl 1 rfl) ?_
        refine lv_imul hx hb dX5_covers_36 ?_
        refine lv_iadd hx hb dX5_covers_37 ?_
        obtain ⟨v38, e38, h⟩ := bd1_some h
        refine x_ald hc hG 6 rfl e38 dX5_covers_38 ?_
        refine lv_iload_n hx hb dX5_covers_39 rfl (lv_at hl 2 rfl) ?_
        refine lv_aload_n hx hb dX5_covers_40 rfl (lv_at hl 0 rfl) ?_
        refine x_get hc hG 0 rfl iX5 5 lX5_25 rfl dX5_covers_41 ?_
        refine lv_iconst (v := 5) hx hb dX5_covers_44 (by decide) ?_
        refine lv_iconst (v := 5) hx hb dX5_covers_45 (by decide) ?_
        refine lv_iload_n hx hb dX5_covers_46 rfl (lv_at hl 1 rfl) ?_
        refine lv_imul hx hb dX5_covers_47 ?_
        refine lv_iadd hx hb dX5_covers_48 ?_
        refine lv_iconst (v := 2) hx hb dX5_covers_49 (by decide) ?_
        refine lv_iadd hx hb dX5_covers_50 ?_
        obtain ⟨v51, e51, h⟩ := bd1_some h
        refine x_ald hc hG 6 rfl e51 dX5_covers_51 ?_
        refine lv_iload_n hx hb dX5_covers_52 rfl (lv_at hl 3 rfl) ?_
        obtain ⟨v53, e53, h⟩ := bd1_some h
        refine x_si0 (rest := []) hc hG (cc_X5_coversOf v38 x2 v51 x3 v53 e53) lX5_136 ⟨rfl, rfl, by decide, by decide⟩ rfl hl.1 (Nat.le_of_ble_eq_true rfl) rfl dX5_covers_53 (fun H locs hG => ?_)
        cases h
        exact hret _ _ _ _ hG dX5_covers_56 rfl
      · rw [if_pos c24] at h
        refine lv_iconst (v := (-1)) hx hb dX5_covers_27 (by decide) ?_
        cases h
        exact hret _ _ _ _ hG dX5_covers_28 rfl
set_option maxRecDepth 100000 in
set_option maxHeartbeats 4000000 in
theorem cc_X5_covered {l : Launch} {D : va_G} {cI : ClassId} {tL : Nat} (ad : Nat → Nat) (deeds : Int32) (finding : Int32) (asked : Int32) (upper : Int64) (lower : Int64) (m_at : Int32) (wrong : Int32) (rowSize : Nat → Int32) (rows : Nat → Int32) (textSize : Nat → Int32) (texts : Nat → Int32) (spare : Nat → Int32) (now : Nat → Int32) (draft : Nat → Int32) (tried : Nat → Int32) (past : Nat → Int32) (kept : Nat → Int32) (keptPast : Nat → Int32) (keptDeeds : Nat → Int32) (findings : Nat → Int32) (worth : Nat → Int32) (r' : Int32) (asked' : Int32) (h : fX5_covered asked now = some (r', asked')) : Ci l D cI tL yX5_covered cX5_covered 1 .int rmX5_covered (wX5 cI ad deeds finding asked upper lower m_at wrong rowSize rows textSize texts spare now draft tried past kept keptPast keptDeeds findings worth) [.ref (ad 0)] r' (wX5 cI ad deeds finding asked' upper lower m_at wrong rowSize rows textSize texts spare now draft tried past kept keptPast keptDeeds findings worth) := by
  refine Ci_of (own := RX5) (by decide) (Nat.le_of_ble_eq_true rfl) rfl ?_
  intro p e s m below meth c Q A AV hc hret ls hl hG
  obtain ⟨hx, hb, hml, hown, hts, hK, hA, hz⟩ := id hc
  have hl : lv_has ls 1 [(0, .ref (ad 0))] := hl
  unfold fX5_covered at h
  refine lv_aload_n hx hb dX5_covered_0 rfl (lv_at hl 0 rfl) ?_
  obtain ⟨v1, e1, h⟩ := bd1_some h
  refine x_vi (rest := []) (ws' := (wX5 cI ad deeds finding asked upper lower m_at wrong rowSize rows textSize texts spare now draft tried past kept keptPast keptDeeds findings worth)) hc hG (cc_X5_isAny ad deeds finding asked upper lower m_at wrong rowSize rows textSize texts spare now draft tried past kept keptPast keptDeeds findings worth v1 e1) [0, 1, 2, 3, 4, 5, 6, 7, 8, 9, 10, 11, 12, 13, 14] [] [0, 1, 2, 3, 4, 5, 6, 7, 8, 9, 10, 11, 12, 13, 14] rfl rfl rfl 0 rfl rfl lX5_186 ⟨rfl, rfl, by decide, by decide⟩ rfl hl.1 (Nat.le_of_ble_eq_true rfl) rfl dX5_covered_1 (fun H locs hG => ?_)
  refine lv_if_ne (tgt := 10) hx hb dX5_covered_4 (by decide) (fun c4 => ?_) (fun c4 => ?_)
  · rw [if_neg c4] at h
    refine lv_aload_n hx hb dX5_covered_10 rfl (lv_at hl 0 rfl) ?_
    refine lv_aload_n hx hb dX5_covered_11 rfl (lv_at hl 0 rfl) ?_
    refine x_get hc hG 0 rfl iX5 5 lX5_25 rfl dX5_covered_12 ?_
    obtain ⟨v15, e15, h⟩ := bd1_some h
    refine x_si (rest := [.ref (ad 0)]) (ws' := (wX5 cI ad deeds finding asked upper lower m_at wrong rowSize rows textSize texts spare now draft tried past kept keptPast keptDeeds findings worth)) hc hG (cc_X5_linesIn (fun k => ad (6 + k)) 35 now v15 e15) [6] [0, 1, 2, 3, 4, 5, 7, 8, 9, 10, 11, 12, 13, 14] [0, 1, 2, 3, 4, 5, 14, 6, 7, 8, 9, 10, 11, 12, 13] rfl rfl rfl lX5_163 ⟨rfl, rfl, by decide, by decide⟩ rfl hl.1 (Nat.le_of_ble_eq_true rfl) rfl dX5_covered_15 (fun H locs hG => ?_)
    obtain ⟨v18, asked_18, e18, h⟩ := bd2_some h
    refine x_vi (rest := []) (ws' := (wX5 cI ad deeds finding asked_18 upper lower m_at wrong rowSize rows textSize texts spare now draft tried past kept keptPast keptDeeds findings worth)) hc hG (cc_X5_tells ad deeds finding asked upper lower m_at wrong rowSize rows textSize texts spare now draft tried past kept keptPast keptDeeds findings worth v15 v18 asked_18 e18) [0, 1, 2, 3, 4, 5, 6, 7, 8, 9, 10, 11, 12, 13, 14] [] [0, 1, 2, 3, 4, 5, 6, 7, 8, 9, 10, 11, 12, 13, 14] rfl rfl rfl 0 rfl rfl lX5_75 ⟨rfl, rfl, by decide, by decide⟩ rfl hl.1 (Nat.le_of_ble_eq_true rfl) rfl dX5_covered_18 (fun H locs hG => ?_)
    refine lv_pop hx hb dX5_covered_21 rfl ?_
    refine lv_aload_n hx hb dX5_covered_22 rfl (lv_at hl 0 rfl) ?_
    refine x_get hc hG 0 rfl iX5 5 lX5_25 rfl dX5_covered_23 ?_
    refine lv_iconst (v := 0) hx hb dX5_covered_26 (by decide) ?_
    obtain ⟨v27, e27, h⟩ := bd1_some h
    refine x_si (rest := []) (ws' := (wX5 cI ad deeds finding asked_18 upper lower m_at wrong rowSize rows textSize texts spare now draft tried past kept keptPast keptDeeds findings worth)) hc hG (cc_X5_coveredBut (fun k => ad (6 + k)) 35 now 0 v27 e27) [6] [0, 1, 2, 3, 4, 5, 7, 8, 9, 10, 11, 12, 13, 14] [0, 1, 2, 3, 4, 5, 14, 6, 7, 8, 9, 10, 11, 12, 13] rfl rfl rfl lX5_154 ⟨rfl, rfl, by decide, by decide⟩ rfl hl.1 (Nat.le_of_ble_eq_true rfl) rfl dX5_covered_27 (fun H locs hG => ?_)
    cases h
    exact hret _ _ _ _ hG dX5_covered_30 rfl
  · rw [if_pos c4] at h
    refine lv_bipush (v := (-4)) hx hb dX5_covered_7 (by decide) ?_
    cases h
    exact hret _ _ _ _ hG dX5_covered_9 rfl
set_option maxRecDepth 100000 in
set_option maxHeartbeats 4000000 in
theorem cc_X5_weighs {l : Launch} {D : va_G} {cI : ClassId} {tL : Nat} (ad : Nat → Nat) (deeds : Int32) (finding : Int32) (asked : Int32) (upper : Int64) (lower : Int64) (m_at : Int32) (wrong : Int32) (rowSize : Nat → Int32) (rows : Nat → Int32) (textSize : Nat → Int32) (texts : Nat → Int32) (spare : Nat → Int32) (now : Nat → Int32) (draft : Nat → Int32) (tried : Nat → Int32) (past : Nat → Int32) (kept : Nat → Int32) (keptPast : Nat → Int32) (keptDeeds : Nat → Int32) (findings : Nat → Int32) (worth : Nat → Int32) (x1 : Int32) (r' : Int32) (h : fX5_weighs now x1 = some r') : Ci l D cI tL yX5_weighs cX5_weighs 5 .int rmX5_weighs (wX5 cI ad deeds finding asked upper lower m_at wrong rowSize rows textSize texts spare now draft tried past kept keptPast keptDeeds findings worth) [.ref (ad 0), .int x1] r' (wX5 cI ad deeds finding asked upper lower m_at wrong rowSize rows textSize texts spare now draft tried past kept keptPast keptDeeds findings worth) := by
  refine Ci_of (own := RX5) (by decide) (Nat.le_of_ble_eq_true rfl) rfl ?_
  intro p e s m below meth c Q A AV hc hret ls hl hG
  obtain ⟨hx, hb, hml, hown, hts, hK, hA, hz⟩ := id hc
  have hl : lv_has ls 5 [(0, .ref (ad 0)), (1, .int x1)] := hl
  have hL_26 : ∀ (x1 : Int32) (x2_o : Int32), (∀ (ls : Array Slot) (H : Heap) (locs : List Loc), lv_has ls 5 [(0, .ref (ad 0)), (2, .int x2_o)] → St D A s (wX5 cI ad deeds finding asked upper lower m_at wrong rowSize rows textSize texts spare now draft tried past kept keptPast keptDeeds findings worth) H locs → W p l e rmX5_weighs s m AV below meth c H locs 0 0 Q (F0 m 105 ls [])) → ∀ (n : Nat) (x2 : Int32) (x3 : Int32), fX5_weighs_L26 now x1 n x2 x3 = some x2_o → ∀ (ls : Array Slot) (H : Heap) (locs : List Loc), lv_has ls 5 [(0, .ref (ad 0)), (1, .int x1), (2, .int x2), (3, .int x3)] → St D A s (wX5 cI ad deeds finding asked upper lower m_at wrong rowSize rows textSize texts spare now draft tried past kept keptPast keptDeeds findings worth) H locs → W p l e rmX5_weighs s m AV below meth c H locs 0 0 Q (F0 m 26 ls []) := by
    intro x1 x2_o KE n
    induction n with
    | zero =>
      intro x2 x3 h
      exact nomatch (show none = some _ from h)
    | succ n ih =>
      intro x2 x3 h ls H locs hl hG
      have h : fX5_weighs_B26 now x1 (fX5_weighs_L26 now x1 n) x2 x3 = some x2_o := h
      have hj_97 : ∀ (x3 : Int32) (k0 : Int32) (k1 : Int32) , fX5_weighs_j97 (fX5_weighs_L26 now x1 n) now x1 x3 k0 k1 = some x2_o → ∀ (ls : Array Slot) (H : Heap) (locs : List Loc), lv_has ls 5 [(0, .ref (ad 0)), (1, .int x1), (3, .int x3)] → St D A s (wX5 cI ad deeds finding asked upper lower m_at wrong rowSize rows textSize texts spare now draft tried past kept keptPast keptDeeds findings worth) H locs → W p l e rmX5_weighs s m AV below meth c H locs 0 0 Q (F0 m 97 ls [.int k1, .int k0]) := by
        intro x3 k0 k1 h ls H locs hl hG
        unfold fX5_weighs_j97 at h
        refine lv_iadd hx hb dX5_weighs_97 ?_
        refine lv_istore_n (lv' := [(2, .int (k0 + k1)), (0, .ref (ad 0)), (1, .int x1), (3, .int x3)]) hx hb dX5_weighs_98 rfl hl (by decide) rfl (fun ls hl => ?_)
        refine lv_iinc (v := (x3 + 1)) (lv' := [(3, .int (x3 + 1)), (2, .int (k0 + k1)), (0, .ref (ad 0)), (1, .int x1)]) hx hb dX5_weighs_99 hl (k := 3) rfl rfl (by decide) rfl (fun ls hl => ?_)
        refine lv_goto (tgt := 26) hx hb dX5_weighs_102 (by decide) ?_
        exact ih _ _ h _ _ _ (lv_sub hl [2, 3, 1, 0] rfl) hG
      have hj_72 : ∀ (x2 : Int32) (x3 : Int32) (k0 : Int32) , fX5_weighs_j72 (fX5_weighs_L26 now x1 n) now x1 x2 x3 k0 = some x2_o → ∀ (ls : Array Slot) (H : Heap) (locs : List Loc), lv_has ls 5 [(0, .ref (ad 0)), (1, .int x1), (2, .int x2), (3, .int x3)] → St D A s (wX5 cI ad deeds finding asked upper lower m_at wrong rowSize rows textSize texts spare now draft tried past kept keptPast keptDeeds findings worth) H locs → W p l e rmX5_weighs s m AV below meth c H locs 0 0 Q (F0 m 72 ls [.int k0]) := by
        intro x2 x3 k0 h ls H locs hl hG
        unfold fX5_weighs_j72 at h
        refine lv_istore (lv' := [(4, .int k0), (0, .ref (ad 0)), (1, .int x1), (2, .int x2), (3, .int x3)]) hx hb dX5_weighs_72 hl (by decide) rfl (fun ls hl => ?_)
        refine lv_iload_n hx hb dX5_weighs_74 rfl (lv_at hl 3 rfl) ?_
        refine lv_iload hx hb dX5_weighs_75 (lv_at hl 0 rfl) ?_
        refine lv_if_eq (tgt := 96) hx hb dX5_weighs_77 (by decide) (fun c77 => ?_) (fun c77 => ?_)
        · rw [if_pos c77] at h
          refine lv_iconst (v := 0) hx hb dX5_weighs_96 (by decide) ?_
          exact hj_97 _ _ _ h _ _ _ (lv_sub hl [1, 2, 4] rfl) hG
        · rw [if_neg c77] at h
          refine lv_aload_n hx hb dX5_weighs_80 rfl (lv_at hl 1 rfl) ?_
          refine x_get hc hG 0 rfl iX5 5 lX5_25 rfl dX5_weighs_81 ?_
          refine lv_iconst (v := 5) hx hb dX5_weighs_84 (by decide) ?_
          refine lv_iconst (v := 5) hx hb dX5_weighs_85 (by decide) ?_
          refine lv_iload_n hx hb dX5_weighs_86 rfl (lv_at hl 4 rfl) ?_
          refine lv_imul hx hb dX5_weighs_87 ?_
          refine lv_iadd hx hb dX5_weighs_88 ?_
          obtain ⟨v89, e89, h⟩ := bd1_some h
          refine x_ald hc hG 6 rfl e89 dX5_weighs_89 ?_
          obtain ⟨v90, e90, h⟩ := bd1_some h
          refine x_si0 (rest := [.int x2]) hc hG (cc_X5_weightOf v89 v90 e90) lX5_167 ⟨rfl, rfl, by decide, by decide⟩ rfl hl.1 (Nat.le_of_ble_eq_true rfl) rfl dX5_weighs_90 (fun H locs hG => ?_)
          refine lv_goto (tgt := 97) hx hb dX5_weighs_93 (by decide) ?_
          exact hj_97 _ _ _ h _ _ _ (lv_sub hl [1, 2, 4] rfl) hG
      have hj_71 : ∀ (x2 : Int32) (x3 : Int32) , fX5_weighs_j71 (fX5_weighs_L26 now x1 n) now x1 x2 x3 = some x2_o → ∀ (ls : Array Slot) (H : Heap) (locs : List Loc), lv_has ls 5 [(0, .ref (ad 0)), (1, .int x1), (2, .int x2), (3, .int x3)] → St D A s (wX5 cI ad deeds finding asked upper lower m_at wrong rowSize rows textSize texts spare now draft tried past kept keptPast keptDeeds findings worth) H locs → W p l e rmX5_weighs s m AV below meth c H locs 0 0 Q (F0 m 71 ls []) := by
        intro x2 x3 h ls H locs hl hG
        unfold fX5_weighs_j71 at h
        refine lv_iconst (v := 0) hx hb dX5_weighs_71 (by decide) ?_
        exact hj_72 _ _ _ h _ _ _ (lv_sub hl [0, 1, 2, 3] rfl) hG
      unfold fX5_weighs_B26 at h
      refine lv_iload_n hx hb dX5_weighs_26 rfl (lv_at hl 3 rfl) ?_
      refine lv_aload_n hx hb dX5_weighs_27 rfl (lv_at hl 0 rfl) ?_
      refine x_get hc hG 0 rfl iX5 5 lX5_25 rfl dX5_weighs_28 ?_
      refine lv_iconst (v := 1) hx hb dX5_weighs_31 (by decide) ?_
      obtain ⟨v32, e32, h⟩ := bd1_some h
      refine x_ald hc hG 6 rfl e32 dX5_weighs_32 ?_
      refine lv_icmp_ge (tgt := 105) hx hb dX5_weighs_33 (by decide) (fun c33 => ?_) (fun c33 => ?_)
      · rw [if_pos c33] at h
        cases h
        exact KE _ _ _ (lv_sub hl [0, 2] rfl) hG
      · rw [if_neg c33] at h
        refine lv_aload_n hx hb dX5_weighs_36 rfl (lv_at hl 0 rfl) ?_
        refine x_get hc hG 0 rfl iX5 5 lX5_25 rfl dX5_weighs_37 ?_
        refine lv_iconst (v := 5) hx hb dX5_weighs_40 (by decide) ?_
        refine lv_iconst (v := 5) hx hb dX5_weighs_41 (by decide) ?_
        refine lv_iload_n hx hb dX5_weighs_42 rfl (lv_at hl 3 rfl) ?_
        refine lv_imul hx hb dX5_weighs_43 ?_
        refine lv_iadd hx hb dX5_weighs_44 ?_
        refine lv_iconst (v := 4) hx hb dX5_weighs_45 (by decide) ?_
        refine lv_iadd hx hb dX5_weighs_46 ?_
        obtain ⟨v47, e47, h⟩ := bd1_some h
        refine x_ald hc hG 6 rfl e47 dX5_weighs_47 ?_
        refine lv_if_ne (tgt := 71) hx hb dX5_weighs_48 (by decide) (fun c48 => ?_) (fun c48 => ?_)
        · rw [if_neg c48] at h
          exact hj_71 _ _ h _ _ _ (lv_sub hl [0, 1, 2, 3] rfl) hG
        · rw [if_pos c48] at h
          refine lv_aload_n hx hb dX5_weighs_51 rfl (lv_at hl 0 rfl) ?_
          refine x_get hc hG 0 rfl iX5 5 lX5_25 rfl dX5_weighs_52 ?_
          refine lv_iload_n hx hb dX5_weighs_55 rfl (lv_at hl 3 rfl) ?_
          obtain ⟨v56, e56, h⟩ := bd1_some h
          refine x_si (rest := []) (ws' := (wX5 cI ad deeds finding asked upper lower m_at wrong rowSize rows textSize texts spare now draft tried past kept keptPast keptDeeds findings worth)) hc hG (cc_X5_coverOf (fun k => ad (6 + k)) 35 now x3 v56 e56) [6] [0, 1, 2, 3, 4, 5, 7, 8, 9, 10, 11, 12, 13, 14] [0, 1, 2, 3, 4, 5, 14, 6, 7, 8, 9, 10, 11, 12, 13] rfl rfl rfl lX5_144 ⟨rfl, rfl, by decide, by decide⟩ rfl hl.1 (Nat.le_of_ble_eq_true rfl) rfl dX5_weighs_56 (fun H locs hG => ?_)
          refine lv_iload_n hx hb dX5_weighs_59 rfl (lv_at hl 1 rfl) ?_
          obtain ⟨v60, e60, h⟩ := bd1_some h
          refine x_si0 (rest := [.int v56]) hc hG (cc_X5_lineOf x1 v60 e60) lX5_148 ⟨rfl, rfl, by decide, by decide⟩ rfl hl.1 (Nat.le_of_ble_eq_true rfl) rfl dX5_weighs_60 (fun H locs hG => ?_)
          refine lv_iand hx hb dX5_weighs_63 ?_
          refine lv_if_eq (tgt := 71) hx hb dX5_weighs_64 (by decide) (fun c64 => ?_) (fun c64 => ?_)
          · rw [if_pos c64] at h
            exact hj_71 _ _ h _ _ _ (lv_sub hl [0, 1, 2, 3] rfl) hG
          · rw [if_neg c64] at h
            refine lv_iconst (v := 1) hx hb dX5_weighs_67 (by decide) ?_
            refine lv_goto (tgt := 72) hx hb dX5_weighs_68 (by decide) ?_
            exact hj_72 _ _ _ h _ _ _ (lv_sub hl [0, 1, 2, 3] rfl) hG
  unfold fX5_weighs at h
  refine lv_iload_n hx hb dX5_weighs_0 rfl (lv_at hl 1 rfl) ?_
  refine lv_iconst (v := 0) hx hb dX5_weighs_1 (by decide) ?_
  refine lv_bipush (v := 7) hx hb dX5_weighs_2 (by decide) ?_
  obtain ⟨v4, e4, h⟩ := bd1_some h
  refine x_si0 (rest := []) hc hG (cc_X5_in0 x1 0 7 v4 e4) lX5_63 ⟨rfl, rfl, by decide, by decide⟩ rfl hl.1 (Nat.le_of_ble_eq_true rfl) rfl dX5_weighs_4 (fun H locs hG => ?_)
  refine lv_if_ne (tgt := 12) hx hb dX5_weighs_7 (by decide) (fun c7 => ?_) (fun c7 => ?_)
  · rw [if_neg c7] at h
    refine lv_aload_n hx hb dX5_weighs_12 rfl (lv_at hl 0 rfl) ?_
    obtain ⟨v13, e13, h⟩ := bd1_some h
    refine x_vi (rest := []) (ws' := (wX5 cI ad deeds finding asked upper lower m_at wrong rowSize rows textSize texts spare now draft tried past kept keptPast keptDeeds findings worth)) hc hG (cc_X5_isAny ad deeds finding asked upper lower m_at wrong rowSize rows textSize texts spare now draft tried past kept keptPast keptDeeds findings worth v13 e13) [0, 1, 2, 3, 4, 5, 6, 7, 8, 9, 10, 11, 12, 13, 14] [] [0, 1, 2, 3, 4, 5, 6, 7, 8, 9, 10, 11, 12, 13, 14] rfl rfl rfl 0 rfl rfl lX5_186 ⟨rfl, rfl, by decide, by decide⟩ rfl hl.1 (Nat.le_of_ble_eq_true rfl) rfl dX5_weighs_13 (fun H locs hG => ?_)
    refine lv_if_ne (tgt := 22) hx hb dX5_weighs_16 (by decide) (fun c16 => ?_) (fun c16 => ?_)
    · rw [if_neg c16] at h
      refine lv_iconst (v := 0) hx hb dX5_weighs_22 (by decide) ?_
      refine lv_istore_n (lv' := [(2, .int 0), (0, .ref (ad 0)), (1, .int x1)]) hx hb dX5_weighs_23 rfl hl (by decide) rfl (fun ls hl => ?_)
      refine lv_iconst (v := 0) hx hb dX5_weighs_24 (by decide) ?_
      refine lv_istore_n (lv' := [(3, .int 0), (2, .int 0), (0, .ref (ad 0)), (1, .int x1)]) hx hb dX5_weighs_25 rfl hl (by decide) rfl (fun ls hl => ?_)
      obtain ⟨x2_L26, e26, h⟩ := bd1_some h
      refine hL_26 _ _ (fun ls H locs hl hG => ?_) _ _ _ e26 _ _ _ (lv_sub hl [2, 3, 1, 0] rfl) hG
      refine lv_iload_n hx hb dX5_weighs_105 rfl (lv_at hl 1 rfl) ?_
      cases h
      exact hret _ _ _ _ hG dX5_weighs_106 rfl
    · rw [if_pos c16] at h
      refine lv_bipush (v := (-4)) hx hb dX5_weighs_19 (by decide) ?_
      cases h
      exact hret _ _ _ _ hG dX5_weighs_21 rfl
  · rw [if_pos c7] at h
    refine lv_iconst (v := (-1)) hx hb dX5_weighs_10 (by decide) ?_
    cases h
    exact hret _ _ _ _ hG dX5_weighs_11 rfl
set_option maxRecDepth 100000 in
set_option maxHeartbeats 4000000 in
theorem cc_X5_reads {l : Launch} {D : va_G} {cI : ClassId} {tL : Nat} (ad : Nat → Nat) (deeds : Int32) (finding : Int32) (asked : Int32) (upper : Int64) (lower : Int64) (m_at : Int32) (wrong : Int32) (rowSize : Nat → Int32) (rows : Nat → Int32) (textSize : Nat → Int32) (texts : Nat → Int32) (spare : Nat → Int32) (now : Nat → Int32) (draft : Nat → Int32) (tried : Nat → Int32) (past : Nat → Int32) (kept : Nat → Int32) (keptPast : Nat → Int32) (keptDeeds : Nat → Int32) (findings : Nat → Int32) (worth : Nat → Int32) (x1 : Int32) (r' : Int32) (asked' : Int32) (tried' : Nat → Int32) (h : fX5_reads asked now tried x1 = some (r', asked', tried')) : Ci l D cI tL yX5_reads cX5_reads 3 .int rmX5_reads (wX5 cI ad deeds finding asked upper lower m_at wrong rowSize rows textSize texts spare now draft tried past kept keptPast keptDeeds findings worth) [.ref (ad 0), .int x1] r' (wX5 cI ad deeds finding asked' upper lower m_at wrong rowSize rows textSize texts spare now draft tried' past kept keptPast keptDeeds findings worth) := by
  refine Ci_of (own := RX5) (by decide) (Nat.le_of_ble_eq_true rfl) rfl ?_
  intro p e s m below meth c Q A AV hc hret ls hl hG
  obtain ⟨hx, hb, hml, hown, hts, hK, hA, hz⟩ := id hc
  have hl : lv_has ls 3 [(0, .ref (ad 0)), (1, .int x1)] := hl
  have hL_39 : ∀ (x1 : Int32) (asked : Int32) (tried_o : Nat → Int32), (∀ (ls : Array Slot) (H : Heap) (locs : List Loc), lv_has ls 3 [(0, .ref (ad 0))] → St D A s (wX5 cI ad deeds finding asked upper lower m_at wrong rowSize rows textSize texts spare now draft tried_o past kept keptPast keptDeeds findings worth) H locs → W p l e rmX5_reads s m AV below meth c H locs 0 0 Q (F0 m 58 ls [])) → ∀ (n : Nat) (tried : Nat → Int32) (x2 : Int32), fX5_reads_L39 x1 n tried x2 = some tried_o → ∀ (ls : Array Slot) (H : Heap) (locs : List Loc), lv_has ls 3 [(0, .ref (ad 0)), (1, .int x1), (2, .int x2)] → St D A s (wX5 cI ad deeds finding asked upper lower m_at wrong rowSize rows textSize texts spare now draft tried past kept keptPast keptDeeds findings worth) H locs → W p l e rmX5_reads s m AV below meth c H locs 0 0 Q (F0 m 39 ls []) := by
    intro x1 asked tried_o KE n
    induction n with
    | zero =>
      intro tried x2 h
      exact nomatch (show none = some _ from h)
    | succ n ih =>
      intro tried x2 h ls H locs hl hG
      have h : fX5_reads_B39 x1 (fX5_reads_L39 x1 n) tried x2 = some tried_o := h
      unfold fX5_reads_B39 at h
      refine lv_iload_n hx hb dX5_reads_39 rfl (lv_at hl 2 rfl) ?_
      refine lv_iload_n hx hb dX5_reads_40 rfl (lv_at hl 1 rfl) ?_
      refine lv_icmp_ge (tgt := 58) hx hb dX5_reads_41 (by decide) (fun c41 => ?_) (fun c41 => ?_)
      · rw [if_pos c41] at h
        cases h
        exact KE _ _ _ (lv_sub hl [0] rfl) hG
      · rw [if_neg c41] at h
        refine lv_aload_n hx hb dX5_reads_44 rfl (lv_at hl 0 rfl) ?_
        refine x_get hc hG 0 rfl iX5 7 lX5_31 rfl dX5_reads_45 ?_
        obtain ⟨v48, tried_48, e48, h⟩ := bd2_some h
        refine x_si (rest := []) (ws' := (wX5 cI ad deeds finding asked upper lower m_at wrong rowSize rows textSize texts spare now draft tried_48 past kept keptPast keptDeeds findings worth)) hc hG (cc_X5_passes (fun k => ad (8 + k)) 35 tried v48 tried_48 e48) [8] [0, 1, 2, 3, 4, 5, 6, 7, 9, 10, 11, 12, 13, 14] [0, 1, 2, 3, 4, 5, 6, 7, 14, 8, 9, 10, 11, 12, 13] rfl rfl rfl lX5_193 ⟨rfl, rfl, by decide, by decide⟩ rfl hl.1 (Nat.le_of_ble_eq_true rfl) rfl dX5_reads_48 (fun H locs hG => ?_)
        refine lv_pop hx hb dX5_reads_51 rfl ?_
        refine lv_iinc (v := (x2 + 1)) (lv' := [(2, .int (x2 + 1)), (0, .ref (ad 0)), (1, .int x1)]) hx hb dX5_reads_52 hl (k := 2) rfl rfl (by decide) rfl (fun ls hl => ?_)
        refine lv_goto (tgt := 39) hx hb dX5_reads_55 (by decide) ?_
        exact ih _ _ h _ _ _ (lv_sub hl [1, 2, 0] rfl) hG
  unfold fX5_reads at h
  refine lv_iload_n hx hb dX5_reads_0 rfl (lv_at hl 1 rfl) ?_
  refine lv_iconst (v := 0) hx hb dX5_reads_1 (by decide) ?_
  refine lv_bipush (v := 40) hx hb dX5_reads_2 (by decide) ?_
  obtain ⟨v4, e4, h⟩ := bd1_some h
  refine x_si0 (rest := []) hc hG (cc_X5_in0 x1 0 40 v4 e4) lX5_63 ⟨rfl, rfl, by decide, by decide⟩ rfl hl.1 (Nat.le_of_ble_eq_true rfl) rfl dX5_reads_4 (fun H locs hG => ?_)
  refine lv_if_ne (tgt := 12) hx hb dX5_reads_7 (by decide) (fun c7 => ?_) (fun c7 => ?_)
  · rw [if_neg c7] at h
    refine lv_aload_n hx hb dX5_reads_12 rfl (lv_at hl 0 rfl) ?_
    obtain ⟨v13, e13, h⟩ := bd1_some h
    refine x_vi (rest := []) (ws' := (wX5 cI ad deeds finding asked upper lower m_at wrong rowSize rows textSize texts spare now draft tried past kept keptPast keptDeeds findings worth)) hc hG (cc_X5_isAny ad deeds finding asked upper lower m_at wrong rowSize rows textSize texts spare now draft tried past kept keptPast keptDeeds findings worth v13 e13) [0, 1, 2, 3, 4, 5, 6, 7, 8, 9, 10, 11, 12, 13, 14] [] [0, 1, 2, 3, 4, 5, 6, 7, 8, 9, 10, 11, 12, 13, 14] rfl rfl rfl 0 rfl rfl lX5_186 ⟨rfl, rfl, by decide, by decide⟩ rfl hl.1 (Nat.le_of_ble_eq_true rfl) rfl dX5_reads_13 (fun H locs hG => ?_)
    refine lv_if_ne (tgt := 22) hx hb dX5_reads_16 (by decide) (fun c16 => ?_) (fun c16 => ?_)
    · rw [if_neg c16] at h
      refine lv_aload_n hx hb dX5_reads_22 rfl (lv_at hl 0 rfl) ?_
      refine x_get hc hG 0 rfl iX5 5 lX5_25 rfl dX5_reads_23 ?_
      refine lv_iconst (v := 0) hx hb dX5_reads_26 (by decide) ?_
      refine lv_aload_n hx hb dX5_reads_27 rfl (lv_at hl 0 rfl) ?_
      refine x_get hc hG 0 rfl iX5 7 lX5_31 rfl dX5_reads_28 ?_
      refine lv_iconst (v := 0) hx hb dX5_reads_31 (by decide) ?_
      refine lv_bipush (v := 35) hx hb dX5_reads_32 (by decide) ?_
      obtain ⟨tried_34, e34, h⟩ := bd1_some h
      refine x_sv (rest := []) (ws' := (wX5 cI ad deeds finding asked upper lower m_at wrong rowSize rows textSize texts spare now draft tried_34 past kept keptPast keptDeeds findings worth)) hc hG (cc_X5_copies (fun k => match k with | 0 => ad 6 | _ => ad 8) 35 35 now tried 0 0 35 tried_34 e34) [6, 8] [0, 1, 2, 3, 4, 5, 7, 9, 10, 11, 12, 13, 14] [0, 1, 2, 3, 4, 5, 13, 6, 14, 7, 8, 9, 10, 11, 12] rfl rfl rfl lX5_120 ⟨rfl, rfl, by decide, by decide⟩ rfl hl.1 (Nat.le_of_ble_eq_true rfl) rfl dX5_reads_34 (fun H locs hG => ?_)
      refine lv_iconst (v := 0) hx hb dX5_reads_37 (by decide) ?_
      refine lv_istore_n (lv' := [(2, .int 0), (0, .ref (ad 0)), (1, .int x1)]) hx hb dX5_reads_38 rfl hl (by decide) rfl (fun ls hl => ?_)
      obtain ⟨tried_L39, e39, h⟩ := bd1_some h
      refine hL_39 _ _ _ (fun ls H locs hl hG => ?_) _ _ _ e39 _ _ _ (lv_sub hl [1, 2, 0] rfl) hG
      refine lv_aload_n hx hb dX5_reads_58 rfl (lv_at hl 0 rfl) ?_
      refine lv_aload_n hx hb dX5_reads_59 rfl (lv_at hl 0 rfl) ?_
      refine x_get hc hG 0 rfl iX5 7 lX5_31 rfl dX5_reads_60 ?_
      refine lv_iconst (v := 3) hx hb dX5_reads_63 (by decide) ?_
      obtain ⟨v64, e64, h⟩ := bd1_some h
      refine x_ald hc hG 8 rfl e64 dX5_reads_64 ?_
      obtain ⟨v65, asked_65, e65, h⟩ := bd2_some h
      refine x_vi (rest := []) (ws' := (wX5 cI ad deeds finding asked_65 upper lower m_at wrong rowSize rows textSize texts spare now draft tried_L39 past kept keptPast keptDeeds findings worth)) hc hG (cc_X5_tells ad deeds finding asked upper lower m_at wrong rowSize rows textSize texts spare now draft tried_L39 past kept keptPast keptDeeds findings worth v64 v65 asked_65 e65) [0, 1, 2, 3, 4, 5, 6, 7, 8, 9, 10, 11, 12, 13, 14] [] [0, 1, 2, 3, 4, 5, 6, 7, 8, 9, 10, 11, 12, 13, 14] rfl rfl rfl 0 rfl rfl lX5_75 ⟨rfl, rfl, by decide, by decide⟩ rfl hl.1 (Nat.le_of_ble_eq_true rfl) rfl dX5_reads_65 (fun H locs hG => ?_)
      refine lv_pop hx hb dX5_reads_68 rfl ?_
      refine lv_aload_n hx hb dX5_reads_69 rfl (lv_at hl 0 rfl) ?_
      refine x_get hc hG 0 rfl iX5 7 lX5_31 rfl dX5_reads_70 ?_
      obtain ⟨v73, e73, h⟩ := bd1_some h
      refine x_si (rest := []) (ws' := (wX5 cI ad deeds finding asked_65 upper lower m_at wrong rowSize rows textSize texts spare now draft tried_L39 past kept keptPast keptDeeds findings worth)) hc hG (cc_X5_linesIn (fun k => ad (8 + k)) 35 tried_L39 v73 e73) [8] [0, 1, 2, 3, 4, 5, 6, 7, 9, 10, 11, 12, 13, 14] [0, 1, 2, 3, 4, 5, 6, 7, 14, 8, 9, 10, 11, 12, 13] rfl rfl rfl lX5_163 ⟨rfl, rfl, by decide, by decide⟩ rfl hl.1 (Nat.le_of_ble_eq_true rfl) rfl dX5_reads_73 (fun H locs hG => ?_)
      cases h
      exact hret _ _ _ _ hG dX5_reads_76 rfl
    · rw [if_pos c16] at h
      refine lv_bipush (v := (-4)) hx hb dX5_reads_19 (by decide) ?_
      cases h
      exact hret _ _ _ _ hG dX5_reads_21 rfl
  · rw [if_pos c7] at h
    refine lv_iconst (v := (-1)) hx hb dX5_reads_10 (by decide) ?_
    cases h
    exact hret _ _ _ _ hG dX5_reads_11 rfl
set_option maxRecDepth 100000 in
set_option maxHeartbeats 4000000 in
theorem cc_X5_first {l : Launch} {D : va_G} {cI : ClassId} {tL : Nat} (ad : Nat → Nat) (deeds : Int32) (finding : Int32) (asked : Int32) (upper : Int64) (lower : Int64) (m_at : Int32) (wrong : Int32) (rowSize : Nat → Int32) (rows : Nat → Int32) (textSize : Nat → Int32) (texts : Nat → Int32) (spare : Nat → Int32) (now : Nat → Int32) (draft : Nat → Int32) (tried : Nat → Int32) (past : Nat → Int32) (kept : Nat → Int32) (keptPast : Nat → Int32) (keptDeeds : Nat → Int32) (findings : Nat → Int32) (worth : Nat → Int32) (x1 : Int32) (r' : Int32) (tried' : Nat → Int32) (h : fX5_first now tried x1 = some (r', tried')) : Ci l D cI tL yX5_first cX5_first 3 .int rmX5_first (wX5 cI ad deeds finding asked upper lower m_at wrong rowSize rows textSize texts spare now draft tried past kept keptPast keptDeeds findings worth) [.ref (ad 0), .int x1] r' (wX5 cI ad deeds finding asked upper lower m_at wrong rowSize rows textSize texts spare now draft tried' past kept keptPast keptDeeds findings worth) := by
  refine Ci_of (own := RX5) (by decide) (Nat.le_of_ble_eq_true rfl) rfl ?_
  intro p e s m below meth c Q A AV hc hret ls hl hG
  obtain ⟨hx, hb, hml, hown, hts, hK, hA, hz⟩ := id hc
  have hl : lv_has ls 3 [(0, .ref (ad 0)), (1, .int x1)] := hl
  have hL_39 : ∀ (x1 : Int32) (o : ((Int32 × (Nat → Int32)) ⊕ (Nat → Int32))), (∀ (r : Int32) (tried_r : Nat → Int32), o = .inl (r, tried_r) → ∀ (H : Heap) (locs : List Loc) (pc : Nat) (ls : Array Slot), St D A s (wX5 cI ad deeds finding asked upper lower m_at wrong rowSize rows textSize texts spare now draft tried_r past kept keptPast keptDeeds findings worth) H locs → decode cX5_first pc = .ok (.ireturn, 1) → narrow .int (.int r) = .int r → W p l e rmX5_first s m AV below meth c H locs 0 0 Q (F0 m pc ls [.int r])) → (∀ (tried_o : Nat → Int32), o = .inr tried_o → ∀ (ls : Array Slot) (H : Heap) (locs : List Loc), lv_has ls 3 [(0, .ref (ad 0))] → St D A s (wX5 cI ad deeds finding asked upper lower m_at wrong rowSize rows textSize texts spare now draft tried_o past kept keptPast keptDeeds findings worth) H locs → W p l e rmX5_first s m AV below meth c H locs 0 0 Q (F0 m 67 ls [])) → ∀ (n : Nat) (tried : Nat → Int32) (x2 : Int32), fX5_first_L39 x1 n tried x2 = some o → ∀ (ls : Array Slot) (H : Heap) (locs : List Loc), lv_has ls 3 [(0, .ref (ad 0)), (1, .int x1), (2, .int x2)] → St D A s (wX5 cI ad deeds finding asked upper lower m_at wrong rowSize rows textSize texts spare now draft tried past kept keptPast keptDeeds findings worth) H locs → W p l e rmX5_first s m AV below meth c H locs 0 0 Q (F0 m 39 ls []) := by
    intro x1 o KR KE n
    induction n with
    | zero =>
      intro tried x2 h
      exact nomatch (show none = some _ from h)
    | succ n ih =>
      intro tried x2 h ls H locs hl hG
      have h : fX5_first_B39 x1 (fX5_first_L39 x1 n) tried x2 = some o := h
      unfold fX5_first_B39 at h
      refine lv_iload_n hx hb dX5_first_39 rfl (lv_at hl 2 rfl) ?_
      refine lv_bipush (v := 41) hx hb dX5_first_40 (by decide) ?_
      refine lv_icmp_ge (tgt := 67) hx hb dX5_first_42 (by decide) (fun c42 => ?_) (fun c42 => ?_)
      · rw [if_pos c42] at h
        cases h
        exact KE _ rfl _ _ _ (lv_sub hl [0] rfl) hG
      · rw [if_neg c42] at h
        refine lv_aload_n hx hb dX5_first_45 rfl (lv_at hl 0 rfl) ?_
        refine x_get hc hG 0 rfl iX5 7 lX5_31 rfl dX5_first_46 ?_
        obtain ⟨v49, tried_49, e49, h⟩ := bd2_some h
        refine x_si (rest := []) (ws' := (wX5 cI ad deeds finding asked upper lower m_at wrong rowSize rows textSize texts spare now draft tried_49 past kept keptPast keptDeeds findings worth)) hc hG (cc_X5_passes (fun k => ad (8 + k)) 35 tried v49 tried_49 e49) [8] [0, 1, 2, 3, 4, 5, 6, 7, 9, 10, 11, 12, 13, 14] [0, 1, 2, 3, 4, 5, 6, 7, 14, 8, 9, 10, 11, 12, 13] rfl rfl rfl lX5_193 ⟨rfl, rfl, by decide, by decide⟩ rfl hl.1 (Nat.le_of_ble_eq_true rfl) rfl dX5_first_49 (fun H locs hG => ?_)
        refine lv_iload_n hx hb dX5_first_52 rfl (lv_at hl 1 rfl) ?_
        obtain ⟨v53, e53, h⟩ := bd1_some h
        refine x_si0 (rest := []) hc hG (cc_X5_has v49 x1 v53 e53) lX5_140 ⟨rfl, rfl, by decide, by decide⟩ rfl hl.1 (Nat.le_of_ble_eq_true rfl) rfl dX5_first_53 (fun H locs hG => ?_)
        refine lv_if_eq (tgt := 61) hx hb dX5_first_56 (by decide) (fun c56 => ?_) (fun c56 => ?_)
        · rw [if_pos c56] at h
          refine lv_iinc (v := (x2 + 1)) (lv' := [(2, .int (x2 + 1)), (0, .ref (ad 0)), (1, .int x1)]) hx hb dX5_first_61 hl (k := 2) rfl rfl (by decide) rfl (fun ls hl => ?_)
          refine lv_goto (tgt := 39) hx hb dX5_first_64 (by decide) ?_
          exact ih _ _ h _ _ _ (lv_sub hl [1, 2, 0] rfl) hG
        · rw [if_neg c56] at h
          refine lv_iload_n hx hb dX5_first_59 rfl (lv_at hl 2 rfl) ?_
          cases h
          exact KR _ _ rfl _ _ _ _ hG dX5_first_60 rfl
  unfold fX5_first at h
  refine lv_iload_n hx hb dX5_first_0 rfl (lv_at hl 1 rfl) ?_
  refine lv_iconst (v := 0) hx hb dX5_first_1 (by decide) ?_
  refine lv_bipush (v := 7) hx hb dX5_first_2 (by decide) ?_
  obtain ⟨v4, e4, h⟩ := bd1_some h
  refine x_si0 (rest := []) hc hG (cc_X5_in0 x1 0 7 v4 e4) lX5_63 ⟨rfl, rfl, by decide, by decide⟩ rfl hl.1 (Nat.le_of_ble_eq_true rfl) rfl dX5_first_4 (fun H locs hG => ?_)
  refine lv_if_ne (tgt := 12) hx hb dX5_first_7 (by decide) (fun c7 => ?_) (fun c7 => ?_)
  · rw [if_neg c7] at h
    refine lv_aload_n hx hb dX5_first_12 rfl (lv_at hl 0 rfl) ?_
    obtain ⟨v13, e13, h⟩ := bd1_some h
    refine x_vi (rest := []) (ws' := (wX5 cI ad deeds finding asked upper lower m_at wrong rowSize rows textSize texts spare now draft tried past kept keptPast keptDeeds findings worth)) hc hG (cc_X5_isAny ad deeds finding asked upper lower m_at wrong rowSize rows textSize texts spare now draft tried past kept keptPast keptDeeds findings worth v13 e13) [0, 1, 2, 3, 4, 5, 6, 7, 8, 9, 10, 11, 12, 13, 14] [] [0, 1, 2, 3, 4, 5, 6, 7, 8, 9, 10, 11, 12, 13, 14] rfl rfl rfl 0 rfl rfl lX5_186 ⟨rfl, rfl, by decide, by decide⟩ rfl hl.1 (Nat.le_of_ble_eq_true rfl) rfl dX5_first_13 (fun H locs hG => ?_)
    refine lv_if_ne (tgt := 22) hx hb dX5_first_16 (by decide) (fun c16 => ?_) (fun c16 => ?_)
    · rw [if_neg c16] at h
      refine lv_aload_n hx hb dX5_first_22 rfl (lv_at hl 0 rfl) ?_
      refine x_get hc hG 0 rfl iX5 5 lX5_25 rfl dX5_first_23 ?_
      refine lv_iconst (v := 0) hx hb dX5_first_26 (by decide) ?_
      refine lv_aload_n hx hb dX5_first_27 rfl (lv_at hl 0 rfl) ?_
      refine x_get hc hG 0 rfl iX5 7 lX5_31 rfl dX5_first_28 ?_
      refine lv_iconst (v := 0) hx hb dX5_first_31 (by decide) ?_
      refine lv_bipush (v := 35) hx hb dX5_first_32 (by decide) ?_
      obtain ⟨tried_34, e34, h⟩ := bd1_some h
      refine x_sv (rest := []) (ws' := (wX5 cI ad deeds finding asked upper lower m_at wrong rowSize rows textSize texts spare now draft tried_34 past kept keptPast keptDeeds findings worth)) hc hG (cc_X5_copies (fun k => match k with | 0 => ad 6 | _ => ad 8) 35 35 now tried 0 0 35 tried_34 e34) [6, 8] [0, 1, 2, 3, 4, 5, 7, 9, 10, 11, 12, 13, 14] [0, 1, 2, 3, 4, 5, 13, 6, 14, 7, 8, 9, 10, 11, 12] rfl rfl rfl lX5_120 ⟨rfl, rfl, by decide, by decide⟩ rfl hl.1 (Nat.le_of_ble_eq_true rfl) rfl dX5_first_34 (fun H locs hG => ?_)
      refine lv_iconst (v := 1) hx hb dX5_first_37 (by decide) ?_
      refine lv_istore_n (lv' := [(2, .int 1), (0, .ref (ad 0)), (1, .int x1)]) hx hb dX5_first_38 rfl hl (by decide) rfl (fun ls hl => ?_)
      rcases st1_some h with e39 | ⟨tried_L39, e39, h⟩
      · exact hL_39 _ _ (fun _ _ e H locs pc ls hG d hn => by cases e; exact hret _ _ _ _ hG d hn) (fun _ e => by cases e) _ _ _ e39 _ _ _ (lv_sub hl [1, 2, 0] rfl) hG
      · refine hL_39 _ _ (fun _ _ e => by cases e) (fun tried_L39 e ls H locs hl hG => ?_) _ _ _ e39 _ _ _ (lv_sub hl [1, 2, 0] rfl) hG
        cases e
        refine lv_bipush (v := (-9)) hx hb dX5_first_67 (by decide) ?_
        cases h
        exact hret _ _ _ _ hG dX5_first_69 rfl
    · rw [if_pos c16] at h
      refine lv_bipush (v := (-4)) hx hb dX5_first_19 (by decide) ?_
      cases h
      exact hret _ _ _ _ hG dX5_first_21 rfl
  · rw [if_pos c7] at h
    refine lv_iconst (v := (-1)) hx hb dX5_first_10 (by decide) ?_
    cases h
    exact hret _ _ _ _ hG dX5_first_11 rfl
set_option maxRecDepth 100000 in
set_option maxHeartbeats 4000000 in
theorem cc_X5_areRead {l : Launch} {D : va_G} {cI : ClassId} {tL : Nat} (ad : Nat → Nat) (deeds : Int32) (finding : Int32) (asked : Int32) (upper : Int64) (lower : Int64) (m_at : Int32) (wrong : Int32) (rowSize : Nat → Int32) (rows : Nat → Int32) (textSize : Nat → Int32) (texts : Nat → Int32) (spare : Nat → Int32) (now : Nat → Int32) (draft : Nat → Int32) (tried : Nat → Int32) (past : Nat → Int32) (kept : Nat → Int32) (keptPast : Nat → Int32) (keptDeeds : Nat → Int32) (findings : Nat → Int32) (worth : Nat → Int32) (x1 : Int32) (r' : Int32) (h : fX5_areRead tried x1 = some r') : Ci l D cI tL yX5_areRead cX5_areRead 2 .boolean rmX5_areRead (wX5 cI ad deeds finding asked upper lower m_at wrong rowSize rows textSize texts spare now draft tried past kept keptPast keptDeeds findings worth) [.ref (ad 0), .int x1] r' (wX5 cI ad deeds finding asked upper lower m_at wrong rowSize rows textSize texts spare now draft tried past kept keptPast keptDeeds findings worth) := by
  refine Ci_of (own := RX5) (by decide) (Nat.le_of_ble_eq_true rfl) rfl ?_
  intro p e s m below meth c Q A AV hc hret ls hl hG
  obtain ⟨hx, hb, hml, hown, hts, hK, hA, hz⟩ := id hc
  have hl : lv_has ls 2 [(0, .ref (ad 0)), (1, .int x1)] := hl
  unfold fX5_areRead at h
  refine lv_iload_n hx hb dX5_areRead_0 rfl (lv_at hl 1 rfl) ?_
  refine lv_aload_n hx hb dX5_areRead_1 rfl (lv_at hl 0 rfl) ?_
  refine x_get hc hG 0 rfl iX5 7 lX5_31 rfl dX5_areRead_2 ?_
  obtain ⟨v5, e5, h⟩ := bd1_some h
  refine x_si (rest := [.int x1]) (ws' := (wX5 cI ad deeds finding asked upper lower m_at wrong rowSize rows textSize texts spare now draft tried past kept keptPast keptDeeds findings worth)) hc hG (cc_X5_linesIn (fun k => ad (8 + k)) 35 tried v5 e5) [8] [0, 1, 2, 3, 4, 5, 6, 7, 9, 10, 11, 12, 13, 14] [0, 1, 2, 3, 4, 5, 6, 7, 14, 8, 9, 10, 11, 12, 13] rfl rfl rfl lX5_163 ⟨rfl, rfl, by decide, by decide⟩ rfl hl.1 (Nat.le_of_ble_eq_true rfl) rfl dX5_areRead_5 (fun H locs hG => ?_)
  refine lv_iconst (v := (-1)) hx hb dX5_areRead_8 (by decide) ?_
  refine lv_ixor hx hb dX5_areRead_9 ?_
  refine lv_iand hx hb dX5_areRead_10 ?_
  refine lv_if_ne (tgt := 18) hx hb dX5_areRead_11 (by decide) (fun c11 => ?_) (fun c11 => ?_)
  · rw [if_neg c11] at h
    refine lv_iconst (v := 0) hx hb dX5_areRead_18 (by decide) ?_
    cases h
    exact hret _ _ _ _ hG dX5_areRead_19 rfl
  · rw [if_pos c11] at h
    refine lv_iconst (v := 1) hx hb dX5_areRead_14 (by decide) ?_
    refine lv_goto (tgt := 19) hx hb dX5_areRead_15 (by decide) ?_
    cases h
    exact hret _ _ _ _ hG dX5_areRead_19 rfl
set_option maxRecDepth 100000 in
set_option maxHeartbeats 4000000 in
theorem cc_X5_answers {l : Launch} {D : va_G} {cI : ClassId} {tL : Nat} (ad : Nat → Nat) (deeds : Int32) (finding : Int32) (asked : Int32) (upper : Int64) (lower : Int64) (m_at : Int32) (wrong : Int32) (rowSize : Nat → Int32) (rows : Nat → Int32) (textSize : Nat → Int32) (texts : Nat → Int32) (spare : Nat → Int32) (now : Nat → Int32) (draft : Nat → Int32) (tried : Nat → Int32) (past : Nat → Int32) (kept : Nat → Int32) (keptPast : Nat → Int32) (keptDeeds : Nat → Int32) (findings : Nat → Int32) (worth : Nat → Int32) (x1 : Int32) (x2 : Int32) (x3 : Int32) (x4 : Int32) (x5 : Int32) (x6 : Int32) (rowSize' : Nat → Int32) (rows' : Nat → Int32) (h : fX5_answers rowSize rows x1 x2 x3 x4 x5 x6 = some (rowSize', rows')) : Cv l D cI tL yX5_answers cX5_answers 8 rmX5_answers (wX5 cI ad deeds finding asked upper lower m_at wrong rowSize rows textSize texts spare now draft tried past kept keptPast keptDeeds findings worth) [.ref (ad 0), .int x1, .int x2, .int x3, .int x4, .int x5, .int x6] (wX5 cI ad deeds finding asked upper lower m_at wrong rowSize' rows' textSize texts spare now draft tried past kept keptPast keptDeeds findings worth) := by
  refine Cv_of (own := RX5) (by decide) (Nat.le_of_ble_eq_true rfl) rfl ?_
  intro p e s m below meth c Q A AV hc hret ls hl hG
  obtain ⟨hx, hb, hml, hown, hts, hK, hA, hz⟩ := id hc
  have hl : lv_has ls 8 [(0, .ref (ad 0)), (1, .int x1), (2, .int x2), (3, .int x3), (4, .int x4), (5, .int x5), (6, .int x6)] := hl
  have hL_10 : ∀ (x1 : Int32) (x2 : Int32) (x3 : Int32) (x4 : Int32) (x5 : Int32) (x6 : Int32) (rowSize : Nat → Int32) (rows_o : Nat → Int32), (∀ (ls : Array Slot) (H : Heap) (locs : List Loc), lv_has ls 8 [(0, .ref (ad 0))] → St D A s (wX5 cI ad deeds finding asked upper lower m_at wrong rowSize rows_o textSize texts spare now draft tried past kept keptPast keptDeeds findings worth) H locs → W p l e rmX5_answers s m AV below meth c H locs 0 0 Q (F0 m 78 ls [])) → ∀ (n : Nat) (rows : Nat → Int32) (x7 : Int32), fX5_answers_L10 x1 x2 x3 x4 x5 x6 n rows x7 = some rows_o → ∀ (ls : Array Slot) (H : Heap) (locs : List Loc), lv_has ls 8 [(0, .ref (ad 0)), (1, .int x1), (2, .int x2), (3, .int x3), (4, .int x4), (5, .int x5), (6, .int x6), (7, .int x7)] → St D A s (wX5 cI ad deeds finding asked upper lower m_at wrong rowSize rows textSize texts spare now draft tried past kept keptPast keptDeeds findings worth) H locs → W p l e rmX5_answers s m AV below meth c H locs 0 0 Q (F0 m 10 ls []) := by
    intro x1 x2 x3 x4 x5 x6 rowSize rows_o KE n
    induction n with
    | zero =>
      intro rows x7 h
      exact nomatch (show none = some _ from h)
    | succ n ih =>
      intro rows x7 h ls H locs hl hG
      have h : fX5_answers_B10 x1 x2 x3 x4 x5 x6 (fX5_answers_L10 x1 x2 x3 x4 x5 x6 n) rows x7 = some rows_o := h
      have hj_71 : ∀ (rows : Nat → Int32) (x7 : Int32) (k1 : Int32) (k2 : Int32) , fX5_answers_j71 (fX5_answers_L10 x1 x2 x3 x4 x5 x6 n) rows x1 x2 x3 x4 x5 x6 x7 k1 k2 = some rows_o → ∀ (ls : Array Slot) (H : Heap) (locs : List Loc), lv_has ls 8 [(0, .ref (ad 0)), (1, .int x1), (2, .int x2), (3, .int x3), (4, .int x4), (5, .int x5), (6, .int x6), (7, .int x7)] → St D A s (wX5 cI ad deeds finding asked upper lower m_at wrong rowSize rows textSize texts spare now draft tried past kept keptPast keptDeeds findings worth) H locs → W p l e rmX5_answers s m AV below meth c H locs 0 0 Q (F0 m 71 ls [.int k2, .int k1, .ref (ad 2)]) := by
        intro rows x7 k1 k2 h ls H locs hl hG
        unfold fX5_answers_j71 at h
        obtain ⟨rows_71, e71, h⟩ := bd1_some h
        refine x_ast (ws' := (wX5 cI ad deeds finding asked upper lower m_at wrong rowSize rows_71 textSize texts spare now draft tried past kept keptPast keptDeeds findings worth)) hc hG 2 rfl e71 rfl dX5_answers_71 (fun H locs hG => ?_)
        refine lv_iinc (v := (x7 + 1)) (lv' := [(7, .int (x7 + 1)), (0, .ref (ad 0)), (1, .int x1), (2, .int x2), (3, .int x3), (4, .int x4), (5, .int x5), (6, .int x6)]) hx hb dX5_answers_72 hl (k := 7) rfl rfl (by decide) rfl (fun ls hl => ?_)
        refine lv_goto (tgt := 10) hx hb dX5_answers_75 (by decide) ?_
        exact ih _ _ h _ _ _ (lv_sub hl [1, 2, 3, 4, 5, 6, 7, 0] rfl) hG
      unfold fX5_answers_B10 at h
      refine lv_iload hx hb dX5_answers_10 (lv_at hl 7 rfl) ?_
      refine lv_bipush (v := 40) hx hb dX5_answers_12 (by decide) ?_
      refine lv_icmp_ge (tgt := 78) hx hb dX5_answers_14 (by decide) (fun c14 => ?_) (fun c14 => ?_)
      · rw [if_pos c14] at h
        cases h
        exact KE _ _ _ (lv_sub hl [0] rfl) hG
      · rw [if_neg c14] at h
        refine lv_aload_n hx hb dX5_answers_17 rfl (lv_at hl 0 rfl) ?_
        refine x_get hc hG 0 rfl iX5 1 lX5_13 rfl dX5_answers_18 ?_
        refine lv_bipush (v := 40) hx hb dX5_answers_21 (by decide) ?_
        refine lv_iload_n hx hb dX5_answers_23 rfl (lv_at hl 1 rfl) ?_
        refine lv_imul hx hb dX5_answers_24 ?_
        refine lv_iload hx hb dX5_answers_25 (lv_at hl 7 rfl) ?_
        refine lv_iadd hx hb dX5_answers_27 ?_
        refine lv_iload hx hb dX5_answers_28 (lv_at hl 7 rfl) ?_
        refine lv_iload_n hx hb dX5_answers_30 rfl (lv_at hl 2 rfl) ?_
        refine lv_icmp_lt (tgt := 38) hx hb dX5_answers_31 (by decide) (fun c31 => ?_) (fun c31 => ?_)
        · rw [if_pos c31] at h
          refine lv_iload hx hb dX5_answers_38 (lv_at hl 7 rfl) ?_
          refine lv_if_ne (tgt := 47) hx hb dX5_answers_40 (by decide) (fun c40 => ?_) (fun c40 => ?_)
          · rw [if_neg c40] at h
            refine lv_iload hx hb dX5_answers_47 (lv_at hl 7 rfl) ?_
            refine lv_iconst (v := 1) hx hb dX5_answers_49 (by decide) ?_
            refine lv_icmp_ne (tgt := 58) hx hb dX5_answers_50 (by decide) (fun c50 => ?_) (fun c50 => ?_)
            · rw [if_neg c50] at h
              refine lv_iload hx hb dX5_answers_58 (lv_at hl 7 rfl) ?_
              refine lv_iconst (v := 2) hx hb dX5_answers_60 (by decide) ?_
              refine lv_icmp_ne (tgt := 69) hx hb dX5_answers_61 (by decide) (fun c61 => ?_) (fun c61 => ?_)
              · rw [if_neg c61] at h
                refine lv_iload hx hb dX5_answers_69 (lv_at hl 6 rfl) ?_
                exact hj_71 _ _ _ _ h _ _ _ (lv_sub hl [0, 1, 2, 3, 4, 5, 6, 7] rfl) hG
              · rw [if_pos c61] at h
                refine lv_iload hx hb dX5_answers_64 (lv_at hl 5 rfl) ?_
                refine lv_goto (tgt := 71) hx hb dX5_answers_66 (by decide) ?_
                exact hj_71 _ _ _ _ h _ _ _ (lv_sub hl [0, 1, 2, 3, 4, 5, 6, 7] rfl) hG
            · rw [if_pos c50] at h
              refine lv_iload hx hb dX5_answers_53 (lv_at hl 4 rfl) ?_
              refine lv_goto (tgt := 71) hx hb dX5_answers_55 (by decide) ?_
              exact hj_71 _ _ _ _ h _ _ _ (lv_sub hl [0, 1, 2, 3, 4, 5, 6, 7] rfl) hG
          · rw [if_pos c40] at h
            refine lv_iload_n hx hb dX5_answers_43 rfl (lv_at hl 3 rfl) ?_
            refine lv_goto (tgt := 71) hx hb dX5_answers_44 (by decide) ?_
            exact hj_71 _ _ _ _ h _ _ _ (lv_sub hl [0, 1, 2, 3, 4, 5, 6, 7] rfl) hG
        · rw [if_neg c31] at h
          refine lv_iconst (v := 0) hx hb dX5_answers_34 (by decide) ?_
          refine lv_goto (tgt := 71) hx hb dX5_answers_35 (by decide) ?_
          exact hj_71 _ _ _ _ h _ _ _ (lv_sub hl [0, 1, 2, 3, 4, 5, 6, 7] rfl) hG
  unfold fX5_answers at h
  refine lv_aload_n hx hb dX5_answers_0 rfl (lv_at hl 0 rfl) ?_
  refine x_get hc hG 0 rfl iX5 0 lX5_7 rfl dX5_answers_1 ?_
  refine lv_iload_n hx hb dX5_answers_4 rfl (lv_at hl 1 rfl) ?_
  refine lv_iload_n hx hb dX5_answers_5 rfl (lv_at hl 2 rfl) ?_
  obtain ⟨rowSize_6, e6, h⟩ := bd1_some h
  refine x_ast (ws' := (wX5 cI ad deeds finding asked upper lower m_at wrong rowSize_6 rows textSize texts spare now draft tried past kept keptPast keptDeeds findings worth)) hc hG 1 rfl e6 rfl dX5_answers_6 (fun H locs hG => ?_)
  refine lv_iconst (v := 0) hx hb dX5_answers_7 (by decide) ?_
  refine lv_istore (lv' := [(7, .int 0), (0, .ref (ad 0)), (1, .int x1), (2, .int x2), (3, .int x3), (4, .int x4), (5, .int x5), (6, .int x6)]) hx hb dX5_answers_8 hl (by decide) rfl (fun ls hl => ?_)
  obtain ⟨rows_L10, e10, h⟩ := bd1_some h
  refine hL_10 _ _ _ _ _ _ _ _ (fun ls H locs hl hG => ?_) _ _ _ e10 _ _ _ (lv_sub hl [1, 2, 3, 4, 5, 6, 7, 0] rfl) hG
  cases h
  exact hret _ _ _ _ hG dX5_answers_78
set_option maxRecDepth 100000 in
set_option maxHeartbeats 4000000 in
theorem cc_X5_isDown {l : Launch} {D : va_G} {cI : ClassId} {tL : Nat} (ad : Nat → Nat) (deeds : Int32) (finding : Int32) (asked : Int32) (upper : Int64) (lower : Int64) (m_at : Int32) (wrong : Int32) (rowSize : Nat → Int32) (rows : Nat → Int32) (textSize : Nat → Int32) (texts : Nat → Int32) (spare : Nat → Int32) (now : Nat → Int32) (draft : Nat → Int32) (tried : Nat → Int32) (past : Nat → Int32) (kept : Nat → Int32) (keptPast : Nat → Int32) (keptDeeds : Nat → Int32) (findings : Nat → Int32) (worth : Nat → Int32) (x1 : Int32) (r' : Int32) (h : fX5_isDown now x1 = some r') : Ci l D cI tL yX5_isDown cX5_isDown 2 .boolean rmX5_isDown (wX5 cI ad deeds finding asked upper lower m_at wrong rowSize rows textSize texts spare now draft tried past kept keptPast keptDeeds findings worth) [.ref (ad 0), .int x1] r' (wX5 cI ad deeds finding asked upper lower m_at wrong rowSize rows textSize texts spare now draft tried past kept keptPast keptDeeds findings worth) := by
  refine Ci_of (own := RX5) (by decide) (Nat.le_of_ble_eq_true rfl) rfl ?_
  intro p e s m below meth c Q A AV hc hret ls hl hG
  obtain ⟨hx, hb, hml, hown, hts, hK, hA, hz⟩ := id hc
  have hl : lv_has ls 2 [(0, .ref (ad 0)), (1, .int x1)] := hl
  unfold fX5_isDown at h
  refine lv_aload_n hx hb dX5_isDown_0 rfl (lv_at hl 0 rfl) ?_
  refine x_get hc hG 0 rfl iX5 5 lX5_25 rfl dX5_isDown_1 ?_
  refine lv_iconst (v := 5) hx hb dX5_isDown_4 (by decide) ?_
  refine lv_iconst (v := 5) hx hb dX5_isDown_5 (by decide) ?_
  refine lv_iload_n hx hb dX5_isDown_6 rfl (lv_at hl 1 rfl) ?_
  refine lv_imul hx hb dX5_isDown_7 ?_
  refine lv_iadd hx hb dX5_isDown_8 ?_
  refine lv_iconst (v := 4) hx hb dX5_isDown_9 (by decide) ?_
  refine lv_iadd hx hb dX5_isDown_10 ?_
  obtain ⟨v11, e11, h⟩ := bd1_some h
  refine x_ald hc hG 6 rfl e11 dX5_isDown_11 ?_
  refine lv_if_ne (tgt := 19) hx hb dX5_isDown_12 (by decide) (fun c12 => ?_) (fun c12 => ?_)
  · rw [if_neg c12] at h
    refine lv_iconst (v := 0) hx hb dX5_isDown_19 (by decide) ?_
    cases h
    exact hret _ _ _ _ hG dX5_isDown_20 rfl
  · rw [if_pos c12] at h
    refine lv_iconst (v := 1) hx hb dX5_isDown_15 (by decide) ?_
    refine lv_goto (tgt := 20) hx hb dX5_isDown_16 (by decide) ?_
    cases h
    exact hret _ _ _ _ hG dX5_isDown_20 rfl
set_option maxRecDepth 100000 in
set_option maxHeartbeats 4000000 in
theorem cc_X5_found {l : Launch} {D : va_G} {cI : ClassId} {tL : Nat} (ad : Nat → Nat) (deeds : Int32) (finding : Int32) (asked : Int32) (upper : Int64) (lower : Int64) (m_at : Int32) (wrong : Int32) (rowSize : Nat → Int32) (rows : Nat → Int32) (textSize : Nat → Int32) (texts : Nat → Int32) (spare : Nat → Int32) (now : Nat → Int32) (draft : Nat → Int32) (tried : Nat → Int32) (past : Nat → Int32) (kept : Nat → Int32) (keptPast : Nat → Int32) (keptDeeds : Nat → Int32) (findings : Nat → Int32) (worth : Nat → Int32) (x1 : Int32) (x2 : Int32) (r' : Int32) (rowSize' : Nat → Int32) (rows' : Nat → Int32) (tried' : Nat → Int32) (h : fX5_found rowSize rows now tried x1 x2 = some (r', rowSize', rows', tried')) : Ci l D cI tL yX5_found cX5_found 6 .int rmX5_found (wX5 cI ad deeds finding asked upper lower m_at wrong rowSize rows textSize texts spare now draft tried past kept keptPast keptDeeds findings worth) [.ref (ad 0), .int x1, .int x2] r' (wX5 cI ad deeds finding asked upper lower m_at wrong rowSize' rows' textSize texts spare now draft tried' past kept keptPast keptDeeds findings worth) := by
  refine Ci_of (own := RX5) (by decide) (Nat.le_of_ble_eq_true rfl) rfl ?_
  intro p e s m below meth c Q A AV hc hret ls hl hG
  obtain ⟨hx, hb, hml, hown, hts, hK, hA, hz⟩ := id hc
  have hl : lv_has ls 6 [(0, .ref (ad 0)), (1, .int x1), (2, .int x2)] := hl
  have hL_80 : ∀ (x1 : Int32) (x2 : Int32) (x3 : Int32) (o : ((Int32 × (Nat → Int32) × (Nat → Int32) × (Nat → Int32)) ⊕ ((Nat → Int32) × (Nat → Int32) × (Nat → Int32)))), (∀ (r : Int32) (rowSize_r : Nat → Int32) (rows_r : Nat → Int32) (tried_r : Nat → Int32), o = .inl (r, rowSize_r, rows_r, tried_r) → ∀ (H : Heap) (locs : List Loc) (pc : Nat) (ls : Array Slot), St D A s (wX5 cI ad deeds finding asked upper lower m_at wrong rowSize_r rows_r textSize texts spare now draft tried_r past kept keptPast keptDeeds findings worth) H locs → decode cX5_found pc = .ok (.ireturn, 1) → narrow .int (.int r) = .int r → W p l e rmX5_found s m AV below meth c H locs 0 0 Q (F0 m pc ls [.int r])) → (∀ (rowSize_o : Nat → Int32) (rows_o : Nat → Int32) (tried_o : Nat → Int32), o = .inr (rowSize_o, rows_o, tried_o) → ∀ (ls : Array Slot) (H : Heap) (locs : List Loc), lv_has ls 6 [(0, .ref (ad 0)), (1, .int x1), (2, .int x2), (3, .int x3)] → St D A s (wX5 cI ad deeds finding asked upper lower m_at wrong rowSize_o rows_o textSize texts spare now draft tried_o past kept keptPast keptDeeds findings worth) H locs → W p l e rmX5_found s m AV below meth c H locs 0 0 Q (F0 m 151 ls [])) → ∀ (n : Nat) (rowSize : Nat → Int32) (rows : Nat → Int32) (tried : Nat → Int32) (x4 : Int32), fX5_found_L80 now x1 x2 x3 n rowSize rows tried x4 = some o → ∀ (ls : Array Slot) (H : Heap) (locs : List Loc), lv_has ls 6 [(0, .ref (ad 0)), (1, .int x1), (2, .int x2), (3, .int x3), (4, .int x4)] → St D A s (wX5 cI ad deeds finding asked upper lower m_at wrong rowSize rows textSize texts spare now draft tried past kept keptPast keptDeeds findings worth) H locs → W p l e rmX5_found s m AV below meth c H locs 0 0 Q (F0 m 80 ls []) := by
    intro x1 x2 x3 o KR KE n
    induction n with
    | zero =>
      intro rowSize rows tried x4 h
      exact nomatch (show none = some _ from h)
    | succ n ih =>
      intro rowSize rows tried x4 h ls H locs hl hG
      have h : fX5_found_B80 now x1 x2 x3 (fX5_found_L80 now x1 x2 x3 n) rowSize rows tried x4 = some o := h
      unfold fX5_found_B80 at h
      refine lv_iload hx hb dX5_found_80 (lv_at hl 4 rfl) ?_
      refine lv_bipush (v := 16) hx hb dX5_found_82 (by decide) ?_
      refine lv_icmp_ge (tgt := 151) hx hb dX5_found_84 (by decide) (fun c84 => ?_) (fun c84 => ?_)
      · rw [if_pos c84] at h
        cases h
        exact KE _ _ _ rfl _ _ _ (lv_sub hl [0, 1, 2, 3] rfl) hG
      · rw [if_neg c84] at h
        refine lv_aload_n hx hb dX5_found_87 rfl (lv_at hl 0 rfl) ?_
        refine lv_iload_n hx hb dX5_found_88 rfl (lv_at hl 3 rfl) ?_
        obtain ⟨v89, e89, h⟩ := bd1_some h
        refine x_vi (rest := []) (ws' := (wX5 cI ad deeds finding asked upper lower m_at wrong rowSize rows textSize texts spare now draft tried past kept keptPast keptDeeds findings worth)) hc hG (cc_X5_isDown ad deeds finding asked upper lower m_at wrong rowSize rows textSize texts spare now draft tried past kept keptPast keptDeeds findings worth x3 v89 e89) [0, 1, 2, 3, 4, 5, 6, 7, 8, 9, 10, 11, 12, 13, 14] [] [0, 1, 2, 3, 4, 5, 6, 7, 8, 9, 10, 11, 12, 13, 14] rfl rfl rfl 0 rfl rfl lX5_209 ⟨rfl, rfl, by decide, by decide⟩ rfl hl.1 (Nat.le_of_ble_eq_true rfl) rfl dX5_found_89 (fun H locs hG => ?_)
        refine lv_if_eq (tgt := 151) hx hb dX5_found_92 (by decide) (fun c92 => ?_) (fun c92 => ?_)
        · rw [if_pos c92] at h
          cases h
          exact KE _ _ _ rfl _ _ _ (lv_sub hl [0, 1, 2, 3] rfl) hG
        · rw [if_neg c92] at h
          refine lv_aload_n hx hb dX5_found_95 rfl (lv_at hl 0 rfl) ?_
          refine x_get hc hG 0 rfl iX5 5 lX5_25 rfl dX5_found_96 ?_
          refine lv_iconst (v := 0) hx hb dX5_found_99 (by decide) ?_
          refine lv_aload_n hx hb dX5_found_100 rfl (lv_at hl 0 rfl) ?_
          refine x_get hc hG 0 rfl iX5 7 lX5_31 rfl dX5_found_101 ?_
          refine lv_iconst (v := 0) hx hb dX5_found_104 (by decide) ?_
          refine lv_bipush (v := 35) hx hb dX5_found_105 (by decide) ?_
          obtain ⟨tried_107, e107, h⟩ := bd1_some h
          refine x_sv (rest := []) (ws' := (wX5 cI ad deeds finding asked upper lower m_at wrong rowSize rows textSize texts spare now draft tried_107 past kept keptPast keptDeeds findings worth)) hc hG (cc_X5_copies (fun k => match k with | 0 => ad 6 | _ => ad 8) 35 35 now tried 0 0 35 tried_107 e107) [6, 8] [0, 1, 2, 3, 4, 5, 7, 9, 10, 11, 12, 13, 14] [0, 1, 2, 3, 4, 5, 13, 6, 14, 7, 8, 9, 10, 11, 12] rfl rfl rfl lX5_120 ⟨rfl, rfl, by decide, by decide⟩ rfl hl.1 (Nat.le_of_ble_eq_true rfl) rfl dX5_found_107 (fun H locs hG => ?_)
          refine lv_aload_n hx hb dX5_found_110 rfl (lv_at hl 0 rfl) ?_
          refine x_get hc hG 0 rfl iX5 7 lX5_31 rfl dX5_found_111 ?_
          refine lv_iconst (v := 5) hx hb dX5_found_114 (by decide) ?_
          refine lv_iconst (v := 5) hx hb dX5_found_115 (by decide) ?_
          refine lv_iload_n hx hb dX5_found_116 rfl (lv_at hl 3 rfl) ?_
          refine lv_imul hx hb dX5_found_117 ?_
          refine lv_iadd hx hb dX5_found_118 ?_
          refine lv_iconst (v := 1) hx hb dX5_found_119 (by decide) ?_
          refine lv_iadd hx hb dX5_found_120 ?_
          refine lv_iload hx hb dX5_found_121 (lv_at hl 4 rfl) ?_
          obtain ⟨tried_123, e123, h⟩ := bd1_some h
          refine x_ast (ws' := (wX5 cI ad deeds finding asked upper lower m_at wrong rowSize rows textSize texts spare now draft tried_123 past kept keptPast keptDeeds findings worth)) hc hG 8 rfl e123 rfl dX5_found_123 (fun H locs hG => ?_)
          refine lv_aload_n hx hb dX5_found_124 rfl (lv_at hl 0 rfl) ?_
          refine lv_iload_n hx hb dX5_found_125 rfl (lv_at hl 1 rfl) ?_
          obtain ⟨v126, e126, h⟩ := bd1_some h
          refine x_vi (rest := []) (ws' := (wX5 cI ad deeds finding asked upper lower m_at wrong rowSize rows textSize texts spare now draft tried_123 past kept keptPast keptDeeds findings worth)) hc hG (cc_X5_areRead ad deeds finding asked upper lower m_at wrong rowSize rows textSize texts spare now draft tried_123 past kept keptPast keptDeeds findings worth x1 v126 e126) [0, 1, 2, 3, 4, 5, 6, 7, 8, 9, 10, 11, 12, 13, 14] [] [0, 1, 2, 3, 4, 5, 6, 7, 8, 9, 10, 11, 12, 13, 14] rfl rfl rfl 0 rfl rfl lX5_202 ⟨rfl, rfl, by decide, by decide⟩ rfl hl.1 (Nat.le_of_ble_eq_true rfl) rfl dX5_found_126 (fun H locs hG => ?_)
          refine lv_if_eq (tgt := 145) hx hb dX5_found_129 (by decide) (fun c129 => ?_) (fun c129 => ?_)
          · rw [if_pos c129] at h
            refine lv_iinc (v := (x4 + 1)) (lv' := [(4, .int (x4 + 1)), (0, .ref (ad 0)), (1, .int x1), (2, .int x2), (3, .int x3)]) hx hb dX5_found_145 hl (k := 4) rfl rfl (by decide) rfl (fun ls hl => ?_)
            refine lv_goto (tgt := 80) hx hb dX5_found_148 (by decide) ?_
            exact ih _ _ _ _ h _ _ _ (lv_sub hl [1, 2, 3, 4, 0] rfl) hG
          · rw [if_neg c129] at h
            refine lv_aload_n hx hb dX5_found_132 rfl (lv_at hl 0 rfl) ?_
            refine lv_iload_n hx hb dX5_found_133 rfl (lv_at hl 2 rfl) ?_
            refine lv_iconst (v := 2) hx hb dX5_found_134 (by decide) ?_
            refine lv_iload_n hx hb dX5_found_135 rfl (lv_at hl 3 rfl) ?_
            refine lv_iload hx hb dX5_found_136 (lv_at hl 4 rfl) ?_
            refine lv_iconst (v := 0) hx hb dX5_found_138 (by decide) ?_
            refine lv_iconst (v := 0) hx hb dX5_found_139 (by decide) ?_
            obtain ⟨rowSize_140, rows_140, e140, h⟩ := bd2_some h
            refine x_vv (rest := []) (ws' := (wX5 cI ad deeds finding asked upper lower m_at wrong rowSize_140 rows_140 textSize texts spare now draft tried_123 past kept keptPast keptDeeds findings worth)) hc hG (cc_X5_answers ad deeds finding asked upper lower m_at wrong rowSize rows textSize texts spare now draft tried_123 past kept keptPast keptDeeds findings worth x2 2 x3 x4 0 0 rowSize_140 rows_140 e140) [0, 1, 2, 3, 4, 5, 6, 7, 8, 9, 10, 11, 12, 13, 14] [] [0, 1, 2, 3, 4, 5, 6, 7, 8, 9, 10, 11, 12, 13, 14] rfl rfl rfl 0 rfl rfl lX5_205 ⟨rfl, rfl, by decide, by decide⟩ rfl hl.1 (Nat.le_of_ble_eq_true rfl) rfl dX5_found_140 (fun H locs hG => ?_)
            refine lv_iconst (v := 1) hx hb dX5_found_143 (by decide) ?_
            cases h
            exact KR _ _ _ _ rfl _ _ _ _ hG dX5_found_144 rfl
  have hL_67 : ∀ (x1 : Int32) (x2 : Int32) (o : ((Int32 × (Nat → Int32) × (Nat → Int32) × (Nat → Int32)) ⊕ ((Nat → Int32) × (Nat → Int32) × (Nat → Int32)))), (∀ (r : Int32) (rowSize_r : Nat → Int32) (rows_r : Nat → Int32) (tried_r : Nat → Int32), o = .inl (r, rowSize_r, rows_r, tried_r) → ∀ (H : Heap) (locs : List Loc) (pc : Nat) (ls : Array Slot), St D A s (wX5 cI ad deeds finding asked upper lower m_at wrong rowSize_r rows_r textSize texts spare now draft tried_r past kept keptPast keptDeeds findings worth) H locs → decode cX5_found pc = .ok (.ireturn, 1) → narrow .int (.int r) = .int r → W p l e rmX5_found s m AV below meth c H locs 0 0 Q (F0 m pc ls [.int r])) → (∀ (rowSize_o : Nat → Int32) (rows_o : Nat → Int32) (tried_o : Nat → Int32), o = .inr (rowSize_o, rows_o, tried_o) → ∀ (ls : Array Slot) (H : Heap) (locs : List Loc), lv_has ls 6 [(0, .ref (ad 0)), (1, .int x1), (2, .int x2)] → St D A s (wX5 cI ad deeds finding asked upper lower m_at wrong rowSize_o rows_o textSize texts spare now draft tried_o past kept keptPast keptDeeds findings worth) H locs → W p l e rmX5_found s m AV below meth c H locs 0 0 Q (F0 m 157 ls [])) → ∀ (n : Nat) (rowSize : Nat → Int32) (rows : Nat → Int32) (tried : Nat → Int32) (x3 : Int32), fX5_found_L67 now x1 x2 n rowSize rows tried x3 = some o → ∀ (ls : Array Slot) (H : Heap) (locs : List Loc), lv_has ls 6 [(0, .ref (ad 0)), (1, .int x1), (2, .int x2), (3, .int x3)] → St D A s (wX5 cI ad deeds finding asked upper lower m_at wrong rowSize rows textSize texts spare now draft tried past kept keptPast keptDeeds findings worth) H locs → W p l e rmX5_found s m AV below meth c H locs 0 0 Q (F0 m 67 ls []) := by
    intro x1 x2 o KR KE n
    induction n with
    | zero =>
      intro rowSize rows tried x3 h
      exact nomatch (show none = some _ from h)
    | succ n ih =>
      intro rowSize rows tried x3 h ls H locs hl hG
      have h : fX5_found_B67 now x1 x2 (fX5_found_L67 now x1 x2 n) rowSize rows tried x3 = some o := h
      unfold fX5_found_B67 at h
      refine lv_iload_n hx hb dX5_found_67 rfl (lv_at hl 3 rfl) ?_
      refine lv_aload_n hx hb dX5_found_68 rfl (lv_at hl 0 rfl) ?_
      refine x_get hc hG 0 rfl iX5 5 lX5_25 rfl dX5_found_69 ?_
      refine lv_iconst (v := 1) hx hb dX5_found_72 (by decide) ?_
      obtain ⟨v73, e73, h⟩ := bd1_some h
      refine x_ald hc hG 6 rfl e73 dX5_found_73 ?_
      refine lv_icmp_ge (tgt := 157) hx hb dX5_found_74 (by decide) (fun c74 => ?_) (fun c74 => ?_)
      · rw [if_pos c74] at h
        cases h
        exact KE _ _ _ rfl _ _ _ (lv_sub hl [0, 1, 2] rfl) hG
      · rw [if_neg c74] at h
        refine lv_iconst (v := 0) hx hb dX5_found_77 (by decide) ?_
        refine lv_istore (lv' := [(4, .int 0), (0, .ref (ad 0)), (1, .int x1), (2, .int x2), (3, .int x3)]) hx hb dX5_found_78 hl (by decide) rfl (fun ls hl => ?_)
        rcases sl3_some h with e80 | ⟨rowSize_L80, rows_L80, tried_L80, e80, h⟩
        · obtain ⟨q, e80, rfl⟩ := e80
          exact hL_80 _ _ _ _ (fun _ _ _ _ e H locs pc ls hG d hn => by cases e; exact KR _ _ _ _ rfl _ _ _ _ hG d hn) (fun _ _ _ e => by cases e) _ _ _ _ _ e80 _ _ _ (lv_sub hl [1, 2, 3, 4, 0] rfl) hG
        · refine hL_80 _ _ _ _ (fun _ _ _ _ e => by cases e) (fun rowSize_L80 rows_L80 tried_L80 e ls H locs hl hG => ?_) _ _ _ _ _ e80 _ _ _ (lv_sub hl [1, 2, 3, 4, 0] rfl) hG
          cases e
          refine lv_iinc (v := (x3 + 1)) (lv' := [(3, .int (x3 + 1)), (0, .ref (ad 0)), (1, .int x1), (2, .int x2)]) hx hb dX5_found_151 hl (k := 3) rfl rfl (by decide) rfl (fun ls hl => ?_)
          refine lv_goto (tgt := 67) hx hb dX5_found_154 (by decide) ?_
          exact ih _ _ _ _ h _ _ _ (lv_sub hl [1, 2, 3, 0] rfl) hG
  have hL_188 : ∀ (x1 : Int32) (x2 : Int32) (x3 : Int32) (x4 : Int32) (o : ((Int32 × (Nat → Int32) × (Nat → Int32) × (Nat → Int32)) ⊕ ((Nat → Int32) × (Nat → Int32) × (Nat → Int32)))), (∀ (r : Int32) (rowSize_r : Nat → Int32) (rows_r : Nat → Int32) (tried_r : Nat → Int32), o = .inl (r, rowSize_r, rows_r, tried_r) → ∀ (H : Heap) (locs : List Loc) (pc : Nat) (ls : Array Slot), St D A s (wX5 cI ad deeds finding asked upper lower m_at wrong rowSize_r rows_r textSize texts spare now draft tried_r past kept keptPast keptDeeds findings worth) H locs → decode cX5_found pc = .ok (.ireturn, 1) → narrow .int (.int r) = .int r → W p l e rmX5_found s m AV below meth c H locs 0 0 Q (F0 m pc ls [.int r])) → (∀ (rowSize_o : Nat → Int32) (rows_o : Nat → Int32) (tried_o : Nat → Int32), o = .inr (rowSize_o, rows_o, tried_o) → ∀ (ls : Array Slot) (H : Heap) (locs : List Loc), lv_has ls 6 [(0, .ref (ad 0)), (1, .int x1), (2, .int x2), (3, .int x3), (4, .int x4)] → St D A s (wX5 cI ad deeds finding asked upper lower m_at wrong rowSize_o rows_o textSize texts spare now draft tried_o past kept keptPast keptDeeds findings worth) H locs → W p l e rmX5_found s m AV below meth c H locs 0 0 Q (F0 m 298 ls [])) → ∀ (n : Nat) (rowSize : Nat → Int32) (rows : Nat → Int32) (tried : Nat → Int32) (x5 : Int32), fX5_found_L188 now x1 x2 x3 x4 n rowSize rows tried x5 = some o → ∀ (ls : Array Slot) (H : Heap) (locs : List Loc), lv_has ls 6 [(0, .ref (ad 0)), (1, .int x1), (2, .int x2), (3, .int x3), (4, .int x4), (5, .int x5)] → St D A s (wX5 cI ad deeds finding asked upper lower m_at wrong rowSize rows textSize texts spare now draft tried past kept keptPast keptDeeds findings worth) H locs → W p l e rmX5_found s m AV below meth c H locs 0 0 Q (F0 m 188 ls []) := by
    intro x1 x2 x3 x4 o KR KE n
    induction n with
    | zero =>
      intro rowSize rows tried x5 h
      exact nomatch (show none = some _ from h)
    | succ n ih =>
      intro rowSize rows tried x5 h ls H locs hl hG
      have h : fX5_found_B188 now x1 x2 x3 x4 (fX5_found_L188 now x1 x2 x3 x4 n) rowSize rows tried x5 = some o := h
      unfold fX5_found_B188 at h
      refine lv_iload hx hb dX5_found_188 (lv_at hl 5 rfl) ?_
      refine lv_sipush (v := 256) hx hb dX5_found_190 (by decide) ?_
      refine lv_icmp_ge (tgt := 298) hx hb dX5_found_193 (by decide) (fun c193 => ?_) (fun c193 => ?_)
      · rw [if_pos c193] at h
        cases h
        exact KE _ _ _ rfl _ _ _ (lv_sub hl [0, 1, 2, 3, 4] rfl) hG
      · rw [if_neg c193] at h
        refine lv_aload_n hx hb dX5_found_196 rfl (lv_at hl 0 rfl) ?_
        refine lv_iload_n hx hb dX5_found_197 rfl (lv_at hl 3 rfl) ?_
        obtain ⟨v198, e198, h⟩ := bd1_some h
        refine x_vi (rest := []) (ws' := (wX5 cI ad deeds finding asked upper lower m_at wrong rowSize rows textSize texts spare now draft tried past kept keptPast keptDeeds findings worth)) hc hG (cc_X5_isDown ad deeds finding asked upper lower m_at wrong rowSize rows textSize texts spare now draft tried past kept keptPast keptDeeds findings worth x3 v198 e198) [0, 1, 2, 3, 4, 5, 6, 7, 8, 9, 10, 11, 12, 13, 14] [] [0, 1, 2, 3, 4, 5, 6, 7, 8, 9, 10, 11, 12, 13, 14] rfl rfl rfl 0 rfl rfl lX5_209 ⟨rfl, rfl, by decide, by decide⟩ rfl hl.1 (Nat.le_of_ble_eq_true rfl) rfl dX5_found_198 (fun H locs hG => ?_)
        refine lv_if_eq (tgt := 298) hx hb dX5_found_201 (by decide) (fun c201 => ?_) (fun c201 => ?_)
        · rw [if_pos c201] at h
          cases h
          exact KE _ _ _ rfl _ _ _ (lv_sub hl [0, 1, 2, 3, 4] rfl) hG
        · rw [if_neg c201] at h
          refine lv_aload_n hx hb dX5_found_204 rfl (lv_at hl 0 rfl) ?_
          refine lv_iload hx hb dX5_found_205 (lv_at hl 4 rfl) ?_
          obtain ⟨v207, e207, h⟩ := bd1_some h
          refine x_vi (rest := []) (ws' := (wX5 cI ad deeds finding asked upper lower m_at wrong rowSize rows textSize texts spare now draft tried past kept keptPast keptDeeds findings worth)) hc hG (cc_X5_isDown ad deeds finding asked upper lower m_at wrong rowSize rows textSize texts spare now draft tried past kept keptPast keptDeeds findings worth x4 v207 e207) [0, 1, 2, 3, 4, 5, 6, 7, 8, 9, 10, 11, 12, 13, 14] [] [0, 1, 2, 3, 4, 5, 6, 7, 8, 9, 10, 11, 12, 13, 14] rfl rfl rfl 0 rfl rfl lX5_209 ⟨rfl, rfl, by decide, by decide⟩ rfl hl.1 (Nat.le_of_ble_eq_true rfl) rfl dX5_found_207 (fun H locs hG => ?_)
          refine lv_if_eq (tgt := 298) hx hb dX5_found_210 (by decide) (fun c210 => ?_) (fun c210 => ?_)
          · rw [if_pos c210] at h
            cases h
            exact KE _ _ _ rfl _ _ _ (lv_sub hl [0, 1, 2, 3, 4] rfl) hG
          · rw [if_neg c210] at h
            refine lv_aload_n hx hb dX5_found_213 rfl (lv_at hl 0 rfl) ?_
            refine x_get hc hG 0 rfl iX5 5 lX5_25 rfl dX5_found_214 ?_
            refine lv_iconst (v := 0) hx hb dX5_found_217 (by decide) ?_
            refine lv_aload_n hx hb dX5_found_218 rfl (lv_at hl 0 rfl) ?_
            refine x_get hc hG 0 rfl iX5 7 lX5_31 rfl dX5_found_219 ?_
            refine lv_iconst (v := 0) hx hb dX5_found_222 (by decide) ?_
            refine lv_bipush (v := 35) hx hb dX5_found_223 (by decide) ?_
            obtain ⟨tried_225, e225, h⟩ := bd1_some h
            refine x_sv (rest := []) (ws' := (wX5 cI ad deeds finding asked upper lower m_at wrong rowSize rows textSize texts spare now draft tried_225 past kept keptPast keptDeeds findings worth)) hc hG (cc_X5_copies (fun k => match k with | 0 => ad 6 | _ => ad 8) 35 35 now tried 0 0 35 tried_225 e225) [6, 8] [0, 1, 2, 3, 4, 5, 7, 9, 10, 11, 12, 13, 14] [0, 1, 2, 3, 4, 5, 13, 6, 14, 7, 8, 9, 10, 11, 12] rfl rfl rfl lX5_120 ⟨rfl, rfl, by decide, by decide⟩ rfl hl.1 (Nat.le_of_ble_eq_true rfl) rfl dX5_found_225 (fun H locs hG => ?_)
            refine lv_aload_n hx hb dX5_found_228 rfl (lv_at hl 0 rfl) ?_
            refine x_get hc hG 0 rfl iX5 7 lX5_31 rfl dX5_found_229 ?_
            refine lv_iconst (v := 5) hx hb dX5_found_232 (by decide) ?_
            refine lv_iconst (v := 5) hx hb dX5_found_233 (by decide) ?_
            refine lv_iload_n hx hb dX5_found_234 rfl (lv_at hl 3 rfl) ?_
            refine lv_imul hx hb dX5_found_235 ?_
            refine lv_iadd hx hb dX5_found_236 ?_
            refine lv_iconst (v := 1) hx hb dX5_found_237 (by decide) ?_
            refine lv_iadd hx hb dX5_found_238 ?_
            refine lv_iload hx hb dX5_found_239 (lv_at hl 5 rfl) ?_
            refine lv_bipush (v := 16) hx hb dX5_found_241 (by decide) ?_
            refine lv_idiv hx hb dX5_found_243 (by decide) ?_
            obtain ⟨tried_244, e244, h⟩ := bd1_some h
            refine x_ast (ws' := (wX5 cI ad deeds finding asked upper lower m_at wrong rowSize rows textSize texts spare now draft tried_244 past kept keptPast keptDeeds findings worth)) hc hG 8 rfl e244 rfl dX5_found_244 (fun H locs hG => ?_)
            refine lv_aload_n hx hb dX5_found_245 rfl (lv_at hl 0 rfl) ?_
            refine x_get hc hG 0 rfl iX5 7 lX5_31 rfl dX5_found_246 ?_
            refine lv_iconst (v := 5) hx hb dX5_found_249 (by decide) ?_
            refine lv_iconst (v := 5) hx hb dX5_found_250 (by decide) ?_
            refine lv_iload hx hb dX5_found_251 (lv_at hl 4 rfl) ?_
            refine lv_imul hx hb dX5_found_253 ?_
            refine lv_iadd hx hb dX5_found_254 ?_
            refine lv_iconst (v := 1) hx hb dX5_found_255 (by decide) ?_
            refine lv_iadd hx hb dX5_found_256 ?_
            refine lv_iload hx hb dX5_found_257 (lv_at hl 5 rfl) ?_
            refine lv_bipush (v := 16) hx hb dX5_found_259 (by decide) ?_
            refine lv_irem hx hb dX5_found_261 (by decide) ?_
            obtain ⟨tried_262, e262, h⟩ := bd1_some h
            refine x_ast (ws' := (wX5 cI ad deeds finding asked upper lower m_at wrong rowSize rows textSize texts spare now draft tried_262 past kept keptPast keptDeeds findings worth)) hc hG 8 rfl e262 rfl dX5_found_262 (fun H locs hG => ?_)
            refine lv_aload_n hx hb dX5_found_263 rfl (lv_at hl 0 rfl) ?_
            refine lv_iload_n hx hb dX5_found_264 rfl (lv_at hl 1 rfl) ?_
            obtain ⟨v265, e265, h⟩ := bd1_some h
            refine x_vi (rest := []) (ws' := (wX5 cI ad deeds finding asked upper lower m_at wrong rowSize rows textSize texts spare now draft tried_262 past kept keptPast keptDeeds findings worth)) hc hG (cc_X5_areRead ad deeds finding asked upper lower m_at wrong rowSize rows textSize texts spare now draft tried_262 past kept keptPast keptDeeds findings worth x1 v265 e265) [0, 1, 2, 3, 4, 5, 6, 7, 8, 9, 10, 11, 12, 13, 14] [] [0, 1, 2, 3, 4, 5, 6, 7, 8, 9, 10, 11, 12, 13, 14] rfl rfl rfl 0 rfl rfl lX5_202 ⟨rfl, rfl, by decide, by decide⟩ rfl hl.1 (Nat.le_of_ble_eq_true rfl) rfl dX5_found_265 (fun H locs hG => ?_)
            refine lv_if_eq (tgt := 292) hx hb dX5_found_268 (by decide) (fun c268 => ?_) (fun c268 => ?_)
            · rw [if_pos c268] at h
              refine lv_iinc (v := (x5 + 1)) (lv' := [(5, .int (x5 + 1)), (0, .ref (ad 0)), (1, .int x1), (2, .int x2), (3, .int x3), (4, .int x4)]) hx hb dX5_found_292 hl (k := 5) rfl rfl (by decide) rfl (fun ls hl => ?_)
              refine lv_goto (tgt := 188) hx hb dX5_found_295 (by decide) ?_
              exact ih _ _ _ _ h _ _ _ (lv_sub hl [1, 2, 3, 4, 5, 0] rfl) hG
            · rw [if_neg c268] at h
              refine lv_aload_n hx hb dX5_found_271 rfl (lv_at hl 0 rfl) ?_
              refine lv_iload_n hx hb dX5_found_272 rfl (lv_at hl 2 rfl) ?_
              refine lv_iconst (v := 4) hx hb dX5_found_273 (by decide) ?_
              refine lv_iload_n hx hb dX5_found_274 rfl (lv_at hl 3 rfl) ?_
              refine lv_iload hx hb dX5_found_275 (lv_at hl 5 rfl) ?_
              refine lv_bipush (v := 16) hx hb dX5_found_277 (by decide) ?_
              refine lv_idiv hx hb dX5_found_279 (by decide) ?_
              refine lv_iload hx hb dX5_found_280 (lv_at hl 4 rfl) ?_
              refine lv_iload hx hb dX5_found_282 (lv_at hl 5 rfl) ?_
              refine lv_bipush (v := 16) hx hb dX5_found_284 (by decide) ?_
              refine lv_irem hx hb dX5_found_286 (by decide) ?_
              obtain ⟨rowSize_287, rows_287, e287, h⟩ := bd2_some h
              refine x_vv (rest := []) (ws' := (wX5 cI ad deeds finding asked upper lower m_at wrong rowSize_287 rows_287 textSize texts spare now draft tried_262 past kept keptPast keptDeeds findings worth)) hc hG (cc_X5_answers ad deeds finding asked upper lower m_at wrong rowSize rows textSize texts spare now draft tried_262 past kept keptPast keptDeeds findings worth x2 4 x3 (x5 / 16) x4 (x5 - x5 / 16 * 16) rowSize_287 rows_287 e287) [0, 1, 2, 3, 4, 5, 6, 7, 8, 9, 10, 11, 12, 13, 14] [] [0, 1, 2, 3, 4, 5, 6, 7, 8, 9, 10, 11, 12, 13, 14] rfl rfl rfl 0 rfl rfl lX5_205 ⟨rfl, rfl, by decide, by decide⟩ rfl hl.1 (Nat.le_of_ble_eq_true rfl) rfl dX5_found_287 (fun H locs hG => ?_)
              refine lv_iconst (v := 2) hx hb dX5_found_290 (by decide) ?_
              cases h
              exact KR _ _ _ _ rfl _ _ _ _ hG dX5_found_291 rfl
  have hL_174 : ∀ (x1 : Int32) (x2 : Int32) (x3 : Int32) (o : ((Int32 × (Nat → Int32) × (Nat → Int32) × (Nat → Int32)) ⊕ ((Nat → Int32) × (Nat → Int32) × (Nat → Int32)))), (∀ (r : Int32) (rowSize_r : Nat → Int32) (rows_r : Nat → Int32) (tried_r : Nat → Int32), o = .inl (r, rowSize_r, rows_r, tried_r) → ∀ (H : Heap) (locs : List Loc) (pc : Nat) (ls : Array Slot), St D A s (wX5 cI ad deeds finding asked upper lower m_at wrong rowSize_r rows_r textSize texts spare now draft tried_r past kept keptPast keptDeeds findings worth) H locs → decode cX5_found pc = .ok (.ireturn, 1) → narrow .int (.int r) = .int r → W p l e rmX5_found s m AV below meth c H locs 0 0 Q (F0 m pc ls [.int r])) → (∀ (rowSize_o : Nat → Int32) (rows_o : Nat → Int32) (tried_o : Nat → Int32), o = .inr (rowSize_o, rows_o, tried_o) → ∀ (ls : Array Slot) (H : Heap) (locs : List Loc), lv_has ls 6 [(0, .ref (ad 0)), (1, .int x1), (2, .int x2), (3, .int x3)] → St D A s (wX5 cI ad deeds finding asked upper lower m_at wrong rowSize_o rows_o textSize texts spare now draft tried_o past kept keptPast keptDeeds findings worth) H locs → W p l e rmX5_found s m AV below meth c H locs 0 0 Q (F0 m 304 ls [])) → ∀ (n : Nat) (rowSize : Nat → Int32) (rows : Nat → Int32) (tried : Nat → Int32) (x4 : Int32), fX5_found_L174 now x1 x2 x3 n rowSize rows tried x4 = some o → ∀ (ls : Array Slot) (H : Heap) (locs : List Loc), lv_has ls 6 [(0, .ref (ad 0)), (1, .int x1), (2, .int x2), (3, .int x3), (4, .int x4)] → St D A s (wX5 cI ad deeds finding asked upper lower m_at wrong rowSize rows textSize texts spare now draft tried past kept keptPast keptDeeds findings worth) H locs → W p l e rmX5_found s m AV below meth c H locs 0 0 Q (F0 m 174 ls []) := by
    intro x1 x2 x3 o KR KE n
    induction n with
    | zero =>
      intro rowSize rows tried x4 h
      exact nomatch (show none = some _ from h)
    | succ n ih =>
      intro rowSize rows tried x4 h ls H locs hl hG
      have h : fX5_found_B174 now x1 x2 x3 (fX5_found_L174 now x1 x2 x3 n) rowSize rows tried x4 = some o := h
      unfold fX5_found_B174 at h
      refine lv_iload hx hb dX5_found_174 (lv_at hl 4 rfl) ?_
      refine lv_aload_n hx hb dX5_found_176 rfl (lv_at hl 0 rfl) ?_
      refine x_get hc hG 0 rfl iX5 5 lX5_25 rfl dX5_found_177 ?_
      refine lv_iconst (v := 1) hx hb dX5_found_180 (by decide) ?_
      obtain ⟨v181, e181, h⟩ := bd1_some h
      refine x_ald hc hG 6 rfl e181 dX5_found_181 ?_
      refine lv_icmp_ge (tgt := 304) hx hb dX5_found_182 (by decide) (fun c182 => ?_) (fun c182 => ?_)
      · rw [if_pos c182] at h
        cases h
        exact KE _ _ _ rfl _ _ _ (lv_sub hl [0, 1, 2, 3] rfl) hG
      · rw [if_neg c182] at h
        refine lv_iconst (v := 0) hx hb dX5_found_185 (by decide) ?_
        refine lv_istore (lv' := [(5, .int 0), (0, .ref (ad 0)), (1, .int x1), (2, .int x2), (3, .int x3), (4, .int x4)]) hx hb dX5_found_186 hl (by decide) rfl (fun ls hl => ?_)
        rcases sl3_some h with e188 | ⟨rowSize_L188, rows_L188, tried_L188, e188, h⟩
        · obtain ⟨q, e188, rfl⟩ := e188
          exact hL_188 _ _ _ _ _ (fun _ _ _ _ e H locs pc ls hG d hn => by cases e; exact KR _ _ _ _ rfl _ _ _ _ hG d hn) (fun _ _ _ e => by cases e) _ _ _ _ _ e188 _ _ _ (lv_sub hl [1, 2, 3, 4, 5, 0] rfl) hG
        · refine hL_188 _ _ _ _ _ (fun _ _ _ _ e => by cases e) (fun rowSize_L188 rows_L188 tried_L188 e ls H locs hl hG => ?_) _ _ _ _ _ e188 _ _ _ (lv_sub hl [1, 2, 3, 4, 5, 0] rfl) hG
          cases e
          refine lv_iinc (v := (x4 + 1)) (lv' := [(4, .int (x4 + 1)), (0, .ref (ad 0)), (1, .int x1), (2, .int x2), (3, .int x3)]) hx hb dX5_found_298 hl (k := 4) rfl rfl (by decide) rfl (fun ls hl => ?_)
          refine lv_goto (tgt := 174) hx hb dX5_found_301 (by decide) ?_
          exact ih _ _ _ _ h _ _ _ (lv_sub hl [1, 2, 3, 4, 0] rfl) hG
  have hL_159 : ∀ (x1 : Int32) (x2 : Int32) (o : ((Int32 × (Nat → Int32) × (Nat → Int32) × (Nat → Int32)) ⊕ ((Nat → Int32) × (Nat → Int32) × (Nat → Int32)))), (∀ (r : Int32) (rowSize_r : Nat → Int32) (rows_r : Nat → Int32) (tried_r : Nat → Int32), o = .inl (r, rowSize_r, rows_r, tried_r) → ∀ (H : Heap) (locs : List Loc) (pc : Nat) (ls : Array Slot), St D A s (wX5 cI ad deeds finding asked upper lower m_at wrong rowSize_r rows_r textSize texts spare now draft tried_r past kept keptPast keptDeeds findings worth) H locs → decode cX5_found pc = .ok (.ireturn, 1) → narrow .int (.int r) = .int r → W p l e rmX5_found s m AV below meth c H locs 0 0 Q (F0 m pc ls [.int r])) → (∀ (rowSize_o : Nat → Int32) (rows_o : Nat → Int32) (tried_o : Nat → Int32), o = .inr (rowSize_o, rows_o, tried_o) → ∀ (ls : Array Slot) (H : Heap) (locs : List Loc), lv_has ls 6 [(0, .ref (ad 0))] → St D A s (wX5 cI ad deeds finding asked upper lower m_at wrong rowSize_o rows_o textSize texts spare now draft tried_o past kept keptPast keptDeeds findings worth) H locs → W p l e rmX5_found s m AV below meth c H locs 0 0 Q (F0 m 310 ls [])) → ∀ (n : Nat) (rowSize : Nat → Int32) (rows : Nat → Int32) (tried : Nat → Int32) (x3 : Int32), fX5_found_L159 now x1 x2 n rowSize rows tried x3 = some o → ∀ (ls : Array Slot) (H : Heap) (locs : List Loc), lv_has ls 6 [(0, .ref (ad 0)), (1, .int x1), (2, .int x2), (3, .int x3)] → St D A s (wX5 cI ad deeds finding asked upper lower m_at wrong rowSize rows textSize texts spare now draft tried past kept keptPast keptDeeds findings worth) H locs → W p l e rmX5_found s m AV below meth c H locs 0 0 Q (F0 m 159 ls []) := by
    intro x1 x2 o KR KE n
    induction n with
    | zero =>
      intro rowSize rows tried x3 h
      exact nomatch (show none = some _ from h)
    | succ n ih =>
      intro rowSize rows tried x3 h ls H locs hl hG
      have h : fX5_found_B159 now x1 x2 (fX5_found_L159 now x1 x2 n) rowSize rows tried x3 = some o := h
      unfold fX5_found_B159 at h
      refine lv_iload_n hx hb dX5_found_159 rfl (lv_at hl 3 rfl) ?_
      refine lv_aload_n hx hb dX5_found_160 rfl (lv_at hl 0 rfl) ?_
      refine x_get hc hG 0 rfl iX5 5 lX5_25 rfl dX5_found_161 ?_
      refine lv_iconst (v := 1) hx hb dX5_found_164 (by decide) ?_
      obtain ⟨v165, e165, h⟩ := bd1_some h
      refine x_ald hc hG 6 rfl e165 dX5_found_165 ?_
      refine lv_icmp_ge (tgt := 310) hx hb dX5_found_166 (by decide) (fun c166 => ?_) (fun c166 => ?_)
      · rw [if_pos c166] at h
        cases h
        exact KE _ _ _ rfl _ _ _ (lv_sub hl [0] rfl) hG
      · rw [if_neg c166] at h
        refine lv_iload_n hx hb dX5_found_169 rfl (lv_at hl 3 rfl) ?_
        refine lv_iconst (v := 1) hx hb dX5_found_170 (by decide) ?_
        refine lv_iadd hx hb dX5_found_171 ?_
        refine lv_istore (lv' := [(4, .int (x3 + 1)), (0, .ref (ad 0)), (1, .int x1), (2, .int x2), (3, .int x3)]) hx hb dX5_found_172 hl (by decide) rfl (fun ls hl => ?_)
        rcases sl3_some h with e174 | ⟨rowSize_L174, rows_L174, tried_L174, e174, h⟩
        · obtain ⟨q, e174, rfl⟩ := e174
          exact hL_174 _ _ _ _ (fun _ _ _ _ e H locs pc ls hG d hn => by cases e; exact KR _ _ _ _ rfl _ _ _ _ hG d hn) (fun _ _ _ e => by cases e) _ _ _ _ _ e174 _ _ _ (lv_sub hl [1, 2, 3, 4, 0] rfl) hG
        · refine hL_174 _ _ _ _ (fun _ _ _ _ e => by cases e) (fun rowSize_L174 rows_L174 tried_L174 e ls H locs hl hG => ?_) _ _ _ _ _ e174 _ _ _ (lv_sub hl [1, 2, 3, 4, 0] rfl) hG
          cases e
          refine lv_iinc (v := (x3 + 1)) (lv' := [(3, .int (x3 + 1)), (0, .ref (ad 0)), (1, .int x1), (2, .int x2)]) hx hb dX5_found_304 hl (k := 3) rfl rfl (by decide) rfl (fun ls hl => ?_)
          refine lv_goto (tgt := 159) hx hb dX5_found_307 (by decide) ?_
          exact ih _ _ _ _ h _ _ _ (lv_sub hl [1, 2, 3, 0] rfl) hG
  unfold fX5_found at h
  refine lv_iload_n hx hb dX5_found_0 rfl (lv_at hl 1 rfl) ?_
  refine lv_iconst (v := 0) hx hb dX5_found_1 (by decide) ?_
  refine lv_sipush (v := 255) hx hb dX5_found_2 (by decide) ?_
  obtain ⟨v5, e5, h⟩ := bd1_some h
  refine x_si0 (rest := []) hc hG (cc_X5_in0 x1 0 255 v5 e5) lX5_63 ⟨rfl, rfl, by decide, by decide⟩ rfl hl.1 (Nat.le_of_ble_eq_true rfl) rfl dX5_found_5 (fun H locs hG => ?_)
  refine lv_if_eq (tgt := 18) hx hb dX5_found_8 (by decide) (fun c8 => ?_) (fun c8 => ?_)
  · rw [if_pos c8] at h
    refine lv_iconst (v := (-1)) hx hb dX5_found_18 (by decide) ?_
    cases h
    exact hret _ _ _ _ hG dX5_found_19 rfl
  · rw [if_neg c8] at h
    refine lv_iload_n hx hb dX5_found_11 rfl (lv_at hl 2 rfl) ?_
    obtain ⟨v12, e12, h⟩ := bd1_some h
    refine x_si0 (rest := []) hc hG (cc_X5_isRow x2 v12 e12) lX5_67 ⟨rfl, rfl, by decide, by decide⟩ rfl hl.1 (Nat.le_of_ble_eq_true rfl) rfl dX5_found_12 (fun H locs hG => ?_)
    refine lv_if_ne (tgt := 20) hx hb dX5_found_15 (by decide) (fun c15 => ?_) (fun c15 => ?_)
    · rw [if_neg c15] at h
      refine lv_aload_n hx hb dX5_found_20 rfl (lv_at hl 0 rfl) ?_
      obtain ⟨v21, e21, h⟩ := bd1_some h
      refine x_vi (rest := []) (ws' := (wX5 cI ad deeds finding asked upper lower m_at wrong rowSize rows textSize texts spare now draft tried past kept keptPast keptDeeds findings worth)) hc hG (cc_X5_isAny ad deeds finding asked upper lower m_at wrong rowSize rows textSize texts spare now draft tried past kept keptPast keptDeeds findings worth v21 e21) [0, 1, 2, 3, 4, 5, 6, 7, 8, 9, 10, 11, 12, 13, 14] [] [0, 1, 2, 3, 4, 5, 6, 7, 8, 9, 10, 11, 12, 13, 14] rfl rfl rfl 0 rfl rfl lX5_186 ⟨rfl, rfl, by decide, by decide⟩ rfl hl.1 (Nat.le_of_ble_eq_true rfl) rfl dX5_found_21 (fun H locs hG => ?_)
      refine lv_if_ne (tgt := 30) hx hb dX5_found_24 (by decide) (fun c24 => ?_) (fun c24 => ?_)
      · rw [if_neg c24] at h
        refine lv_aload_n hx hb dX5_found_30 rfl (lv_at hl 0 rfl) ?_
        refine x_get hc hG 0 rfl iX5 5 lX5_25 rfl dX5_found_31 ?_
        refine lv_iconst (v := 0) hx hb dX5_found_34 (by decide) ?_
        refine lv_aload_n hx hb dX5_found_35 rfl (lv_at hl 0 rfl) ?_
        refine x_get hc hG 0 rfl iX5 7 lX5_31 rfl dX5_found_36 ?_
        refine lv_iconst (v := 0) hx hb dX5_found_39 (by decide) ?_
        refine lv_bipush (v := 35) hx hb dX5_found_40 (by decide) ?_
        obtain ⟨tried_42, e42, h⟩ := bd1_some h
        refine x_sv (rest := []) (ws' := (wX5 cI ad deeds finding asked upper lower m_at wrong rowSize rows textSize texts spare now draft tried_42 past kept keptPast keptDeeds findings worth)) hc hG (cc_X5_copies (fun k => match k with | 0 => ad 6 | _ => ad 8) 35 35 now tried 0 0 35 tried_42 e42) [6, 8] [0, 1, 2, 3, 4, 5, 7, 9, 10, 11, 12, 13, 14] [0, 1, 2, 3, 4, 5, 13, 6, 14, 7, 8, 9, 10, 11, 12] rfl rfl rfl lX5_120 ⟨rfl, rfl, by decide, by decide⟩ rfl hl.1 (Nat.le_of_ble_eq_true rfl) rfl dX5_found_42 (fun H locs hG => ?_)
        refine lv_aload_n hx hb dX5_found_45 rfl (lv_at hl 0 rfl) ?_
        refine lv_iload_n hx hb dX5_found_46 rfl (lv_at hl 1 rfl) ?_
        obtain ⟨v47, e47, h⟩ := bd1_some h
        refine x_vi (rest := []) (ws' := (wX5 cI ad deeds finding asked upper lower m_at wrong rowSize rows textSize texts spare now draft tried_42 past kept keptPast keptDeeds findings worth)) hc hG (cc_X5_areRead ad deeds finding asked upper lower m_at wrong rowSize rows textSize texts spare now draft tried_42 past kept keptPast keptDeeds findings worth x1 v47 e47) [0, 1, 2, 3, 4, 5, 6, 7, 8, 9, 10, 11, 12, 13, 14] [] [0, 1, 2, 3, 4, 5, 6, 7, 8, 9, 10, 11, 12, 13, 14] rfl rfl rfl 0 rfl rfl lX5_202 ⟨rfl, rfl, by decide, by decide⟩ rfl hl.1 (Nat.le_of_ble_eq_true rfl) rfl dX5_found_47 (fun H locs hG => ?_)
        refine lv_if_eq (tgt := 65) hx hb dX5_found_50 (by decide) (fun c50 => ?_) (fun c50 => ?_)
        · rw [if_pos c50] at h
          refine lv_iconst (v := 0) hx hb dX5_found_65 (by decide) ?_
          refine lv_istore_n (lv' := [(3, .int 0), (0, .ref (ad 0)), (1, .int x1), (2, .int x2)]) hx hb dX5_found_66 rfl hl (by decide) rfl (fun ls hl => ?_)
          rcases st3_some h with e67 | ⟨rowSize_L67, rows_L67, tried_L67, e67, h⟩
          · exact hL_67 _ _ _ (fun _ _ _ _ e H locs pc ls hG d hn => by cases e; exact hret _ _ _ _ hG d hn) (fun _ _ _ e => by cases e) _ _ _ _ _ e67 _ _ _ (lv_sub hl [1, 2, 3, 0] rfl) hG
          · refine hL_67 _ _ _ (fun _ _ _ _ e => by cases e) (fun rowSize_L67 rows_L67 tried_L67 e ls H locs hl hG => ?_) _ _ _ _ _ e67 _ _ _ (lv_sub hl [1, 2, 3, 0] rfl) hG
            cases e
            refine lv_iconst (v := 0) hx hb dX5_found_157 (by decide) ?_
            refine lv_istore_n (lv' := [(3, .int 0), (0, .ref (ad 0)), (1, .int x1), (2, .int x2)]) hx hb dX5_found_158 rfl hl (by decide) rfl (fun ls hl => ?_)
            rcases st3_some h with e159 | ⟨rowSize_L159, rows_L159, tried_L159, e159, h⟩
            · exact hL_159 _ _ _ (fun _ _ _ _ e H locs pc ls hG d hn => by cases e; exact hret _ _ _ _ hG d hn) (fun _ _ _ e => by cases e) _ _ _ _ _ e159 _ _ _ (lv_sub hl [1, 2, 3, 0] rfl) hG
            · refine hL_159 _ _ _ (fun _ _ _ _ e => by cases e) (fun rowSize_L159 rows_L159 tried_L159 e ls H locs hl hG => ?_) _ _ _ _ _ e159 _ _ _ (lv_sub hl [1, 2, 3, 0] rfl) hG
              cases e
              refine lv_bipush (v := (-9)) hx hb dX5_found_310 (by decide) ?_
              cases h
              exact hret _ _ _ _ hG dX5_found_312 rfl
        · rw [if_neg c50] at h
          refine lv_aload_n hx hb dX5_found_53 rfl (lv_at hl 0 rfl) ?_
          refine lv_iload_n hx hb dX5_found_54 rfl (lv_at hl 2 rfl) ?_
          refine lv_iconst (v := 0) hx hb dX5_found_55 (by decide) ?_
          refine lv_iconst (v := 0) hx hb dX5_found_56 (by decide) ?_
          refine lv_iconst (v := 0) hx hb dX5_found_57 (by decide) ?_
          refine lv_iconst (v := 0) hx hb dX5_found_58 (by decide) ?_
          refine lv_iconst (v := 0) hx hb dX5_found_59 (by decide) ?_
          obtain ⟨rowSize_60, rows_60, e60, h⟩ := bd2_some h
          refine x_vv (rest := []) (ws' := (wX5 cI ad deeds finding asked upper lower m_at wrong rowSize_60 rows_60 textSize texts spare now draft tried_42 past kept keptPast keptDeeds findings worth)) hc hG (cc_X5_answers ad deeds finding asked upper lower m_at wrong rowSize rows textSize texts spare now draft tried_42 past kept keptPast keptDeeds findings worth x2 0 0 0 0 0 rowSize_60 rows_60 e60) [0, 1, 2, 3, 4, 5, 6, 7, 8, 9, 10, 11, 12, 13, 14] [] [0, 1, 2, 3, 4, 5, 6, 7, 8, 9, 10, 11, 12, 13, 14] rfl rfl rfl 0 rfl rfl lX5_205 ⟨rfl, rfl, by decide, by decide⟩ rfl hl.1 (Nat.le_of_ble_eq_true rfl) rfl dX5_found_60 (fun H locs hG => ?_)
          refine lv_iconst (v := 0) hx hb dX5_found_63 (by decide) ?_
          cases h
          exact hret _ _ _ _ hG dX5_found_64 rfl
      · rw [if_pos c24] at h
        refine lv_bipush (v := (-4)) hx hb dX5_found_27 (by decide) ?_
        cases h
        exact hret _ _ _ _ hG dX5_found_29 rfl
    · rw [if_pos c15] at h
      refine lv_iconst (v := (-1)) hx hb dX5_found_18 (by decide) ?_
      cases h
      exact hret _ _ _ _ hG dX5_found_19 rfl
set_option maxRecDepth 100000 in
set_option maxHeartbeats 4000000 in
theorem cc_X5_best {l : Launch} {D : va_G} {cI : ClassId} {tL : Nat} (ad : Nat → Nat) (deeds : Int32) (finding : Int32) (asked : Int32) (upper : Int64) (lower : Int64) (m_at : Int32) (wrong : Int32) (rowSize : Nat → Int32) (rows : Nat → Int32) (textSize : Nat → Int32) (texts : Nat → Int32) (spare : Nat → Int32) (now : Nat → Int32) (draft : Nat → Int32) (tried : Nat → Int32) (past : Nat → Int32) (kept : Nat → Int32) (keptPast : Nat → Int32) (keptDeeds : Nat → Int32) (findings : Nat → Int32) (worth : Nat → Int32) (x1 : Int32) (r' : Int32) (asked' : Int32) (tried' : Nat → Int32) (h : fX5_best asked now tried x1 = some (r', asked', tried')) : Ci l D cI tL yX5_best cX5_best 6 .int rmX5_best (wX5 cI ad deeds finding asked upper lower m_at wrong rowSize rows textSize texts spare now draft tried past kept keptPast keptDeeds findings worth) [.ref (ad 0), .int x1] r' (wX5 cI ad deeds finding asked' upper lower m_at wrong rowSize rows textSize texts spare now draft tried' past kept keptPast keptDeeds findings worth) := by
  refine Ci_of (own := RX5) (by decide) (Nat.le_of_ble_eq_true rfl) rfl ?_
  intro p e s m below meth c Q A AV hc hret ls hl hG
  obtain ⟨hx, hb, hml, hown, hts, hK, hA, hz⟩ := id hc
  have hl : lv_has ls 6 [(0, .ref (ad 0)), (1, .int x1)] := hl
  have hL_17 : ∀ (x1 : Int32) (asked : Int32) (tried_o : Nat → Int32) (x2_o : Int32) (x3_o : Int32), (∀ (ls : Array Slot) (H : Heap) (locs : List Loc), lv_has ls 6 [(0, .ref (ad 0)), (2, .int x2_o), (3, .int x3_o)] → St D A s (wX5 cI ad deeds finding asked upper lower m_at wrong rowSize rows textSize texts spare now draft tried_o past kept keptPast keptDeeds findings worth) H locs → W p l e rmX5_best s m AV below meth c H locs 0 0 Q (F0 m 110 ls [])) → ∀ (n : Nat) (tried : Nat → Int32) (x2 : Int32) (x3 : Int32) (x4 : Int32), fX5_best_L17 now x1 n tried x2 x3 x4 = some (tried_o, x2_o, x3_o) → ∀ (ls : Array Slot) (H : Heap) (locs : List Loc), lv_has ls 6 [(0, .ref (ad 0)), (1, .int x1), (2, .int x2), (3, .int x3), (4, .int x4)] → St D A s (wX5 cI ad deeds finding asked upper lower m_at wrong rowSize rows textSize texts spare now draft tried past kept keptPast keptDeeds findings worth) H locs → W p l e rmX5_best s m AV below meth c H locs 0 0 Q (F0 m 17 ls []) := by
    intro x1 asked tried_o x2_o x3_o KE n
    induction n with
    | zero =>
      intro tried x2 x3 x4 h
      exact nomatch (show none = some _ from h)
    | succ n ih =>
      intro tried x2 x3 x4 h ls H locs hl hG
      have h : fX5_best_B17 now x1 (fX5_best_L17 now x1 n) tried x2 x3 x4 = some (tried_o, x2_o, x3_o) := h
      have hj_103 : ∀ (tried : Nat → Int32) (x2 : Int32) (x4 : Int32) (k0 : Int32) , fX5_best_j103 (fX5_best_L17 now x1 n) now tried x1 x2 x4 k0 = some (tried_o, x2_o, x3_o) → ∀ (ls : Array Slot) (H : Heap) (locs : List Loc), lv_has ls 6 [(0, .ref (ad 0)), (1, .int x1), (2, .int x2), (4, .int x4)] → St D A s (wX5 cI ad deeds finding asked upper lower m_at wrong rowSize rows textSize texts spare now draft tried past kept keptPast keptDeeds findings worth) H locs → W p l e rmX5_best s m AV below meth c H locs 0 0 Q (F0 m 103 ls [.int k0]) := by
        intro tried x2 x4 k0 h ls H locs hl hG
        unfold fX5_best_j103 at h
        refine lv_istore_n (lv' := [(3, .int k0), (0, .ref (ad 0)), (1, .int x1), (2, .int x2), (4, .int x4)]) hx hb dX5_best_103 rfl hl (by decide) rfl (fun ls hl => ?_)
        refine lv_iinc (v := (x4 + 1)) (lv' := [(4, .int (x4 + 1)), (3, .int k0), (0, .ref (ad 0)), (1, .int x1), (2, .int x2)]) hx hb dX5_best_104 hl (k := 4) rfl rfl (by decide) rfl (fun ls hl => ?_)
        refine lv_goto (tgt := 17) hx hb dX5_best_107 (by decide) ?_
        exact ih _ _ _ _ h _ _ _ (lv_sub hl [2, 3, 4, 1, 0] rfl) hG
      have hj_90 : ∀ (tried : Nat → Int32) (x3 : Int32) (x4 : Int32) (x5 : Int32) (k0 : Int32) , fX5_best_j90 (fX5_best_L17 now x1 n) now tried x1 x3 x4 x5 k0 = some (tried_o, x2_o, x3_o) → ∀ (ls : Array Slot) (H : Heap) (locs : List Loc), lv_has ls 6 [(0, .ref (ad 0)), (1, .int x1), (3, .int x3), (4, .int x4), (5, .int x5)] → St D A s (wX5 cI ad deeds finding asked upper lower m_at wrong rowSize rows textSize texts spare now draft tried past kept keptPast keptDeeds findings worth) H locs → W p l e rmX5_best s m AV below meth c H locs 0 0 Q (F0 m 90 ls [.int k0]) := by
        intro tried x3 x4 x5 k0 h ls H locs hl hG
        unfold fX5_best_j90 at h
        refine lv_istore_n (lv' := [(2, .int k0), (0, .ref (ad 0)), (1, .int x1), (3, .int x3), (4, .int x4), (5, .int x5)]) hx hb dX5_best_90 rfl hl (by decide) rfl (fun ls hl => ?_)
        refine lv_iload hx hb dX5_best_91 (lv_at hl 5 rfl) ?_
        refine lv_iload_n hx hb dX5_best_93 rfl (lv_at hl 3 rfl) ?_
        refine lv_icmp_le (tgt := 102) hx hb dX5_best_94 (by decide) (fun c94 => ?_) (fun c94 => ?_)
        · rw [if_pos c94] at h
          refine lv_iload_n hx hb dX5_best_102 rfl (lv_at hl 3 rfl) ?_
          exact hj_103 _ _ _ _ h _ _ _ (lv_sub hl [1, 2, 0, 4] rfl) hG
        · rw [if_neg c94] at h
          refine lv_iload hx hb dX5_best_97 (lv_at hl 5 rfl) ?_
          refine lv_goto (tgt := 103) hx hb dX5_best_99 (by decide) ?_
          exact hj_103 _ _ _ _ h _ _ _ (lv_sub hl [1, 2, 0, 4] rfl) hG
      unfold fX5_best_B17 at h
      refine lv_iload hx hb dX5_best_17 (lv_at hl 4 rfl) ?_
      refine lv_bipush (v := 16) hx hb dX5_best_19 (by decide) ?_
      refine lv_icmp_ge (tgt := 110) hx hb dX5_best_21 (by decide) (fun c21 => ?_) (fun c21 => ?_)
      · rw [if_pos c21] at h
        cases h
        exact KE _ _ _ (lv_sub hl [0, 2, 3] rfl) hG
      · rw [if_neg c21] at h
        refine lv_aload_n hx hb dX5_best_24 rfl (lv_at hl 0 rfl) ?_
        refine x_get hc hG 0 rfl iX5 5 lX5_25 rfl dX5_best_25 ?_
        refine lv_iconst (v := 0) hx hb dX5_best_28 (by decide) ?_
        refine lv_aload_n hx hb dX5_best_29 rfl (lv_at hl 0 rfl) ?_
        refine x_get hc hG 0 rfl iX5 7 lX5_31 rfl dX5_best_30 ?_
        refine lv_iconst (v := 0) hx hb dX5_best_33 (by decide) ?_
        refine lv_bipush (v := 35) hx hb dX5_best_34 (by decide) ?_
        obtain ⟨tried_36, e36, h⟩ := bd1_some h
        refine x_sv (rest := []) (ws' := (wX5 cI ad deeds finding asked upper lower m_at wrong rowSize rows textSize texts spare now draft tried_36 past kept keptPast keptDeeds findings worth)) hc hG (cc_X5_copies (fun k => match k with | 0 => ad 6 | _ => ad 8) 35 35 now tried 0 0 35 tried_36 e36) [6, 8] [0, 1, 2, 3, 4, 5, 7, 9, 10, 11, 12, 13, 14] [0, 1, 2, 3, 4, 5, 13, 6, 14, 7, 8, 9, 10, 11, 12] rfl rfl rfl lX5_120 ⟨rfl, rfl, by decide, by decide⟩ rfl hl.1 (Nat.le_of_ble_eq_true rfl) rfl dX5_best_36 (fun H locs hG => ?_)
        refine lv_aload_n hx hb dX5_best_39 rfl (lv_at hl 0 rfl) ?_
        refine x_get hc hG 0 rfl iX5 7 lX5_31 rfl dX5_best_40 ?_
        refine lv_iconst (v := 5) hx hb dX5_best_43 (by decide) ?_
        refine lv_iconst (v := 5) hx hb dX5_best_44 (by decide) ?_
        refine lv_iload_n hx hb dX5_best_45 rfl (lv_at hl 1 rfl) ?_
        refine lv_imul hx hb dX5_best_46 ?_
        refine lv_iadd hx hb dX5_best_47 ?_
        refine lv_iconst (v := 1) hx hb dX5_best_48 (by decide) ?_
        refine lv_iadd hx hb dX5_best_49 ?_
        refine lv_iload hx hb dX5_best_50 (lv_at hl 4 rfl) ?_
        obtain ⟨tried_52, e52, h⟩ := bd1_some h
        refine x_ast (ws' := (wX5 cI ad deeds finding asked upper lower m_at wrong rowSize rows textSize texts spare now draft tried_52 past kept keptPast keptDeeds findings worth)) hc hG 8 rfl e52 rfl dX5_best_52 (fun H locs hG => ?_)
        refine lv_aload_n hx hb dX5_best_53 rfl (lv_at hl 0 rfl) ?_
        refine x_get hc hG 0 rfl iX5 7 lX5_31 rfl dX5_best_54 ?_
        refine lv_iconst (v := 5) hx hb dX5_best_57 (by decide) ?_
        refine lv_iconst (v := 5) hx hb dX5_best_58 (by decide) ?_
        refine lv_iload_n hx hb dX5_best_59 rfl (lv_at hl 1 rfl) ?_
        refine lv_imul hx hb dX5_best_60 ?_
        refine lv_iadd hx hb dX5_best_61 ?_
        refine lv_iconst (v := 4) hx hb dX5_best_62 (by decide) ?_
        refine lv_iadd hx hb dX5_best_63 ?_
        refine lv_iconst (v := 0) hx hb dX5_best_64 (by decide) ?_
        obtain ⟨tried_65, e65, h⟩ := bd1_some h
        refine x_ast (ws' := (wX5 cI ad deeds finding asked upper lower m_at wrong rowSize rows textSize texts spare now draft tried_65 past kept keptPast keptDeeds findings worth)) hc hG 8 rfl e65 rfl dX5_best_65 (fun H locs hG => ?_)
        refine lv_aload_n hx hb dX5_best_66 rfl (lv_at hl 0 rfl) ?_
        refine x_get hc hG 0 rfl iX5 7 lX5_31 rfl dX5_best_67 ?_
        obtain ⟨v70, e70, h⟩ := bd1_some h
        refine x_si (rest := []) (ws' := (wX5 cI ad deeds finding asked upper lower m_at wrong rowSize rows textSize texts spare now draft tried_65 past kept keptPast keptDeeds findings worth)) hc hG (cc_X5_linesIn (fun k => ad (8 + k)) 35 tried_65 v70 e70) [8] [0, 1, 2, 3, 4, 5, 6, 7, 9, 10, 11, 12, 13, 14] [0, 1, 2, 3, 4, 5, 6, 7, 14, 8, 9, 10, 11, 12, 13] rfl rfl rfl lX5_163 ⟨rfl, rfl, by decide, by decide⟩ rfl hl.1 (Nat.le_of_ble_eq_true rfl) rfl dX5_best_70 (fun H locs hG => ?_)
        obtain ⟨v73, e73, h⟩ := bd1_some h
        refine x_si0 (rest := []) hc hG (cc_X5_ones v70 v73 e73) lX5_151 ⟨rfl, rfl, by decide, by decide⟩ rfl hl.1 (Nat.le_of_ble_eq_true rfl) rfl dX5_best_73 (fun H locs hG => ?_)
        refine lv_istore (lv' := [(5, .int v73), (0, .ref (ad 0)), (1, .int x1), (2, .int x2), (3, .int x3), (4, .int x4)]) hx hb dX5_best_76 hl (by decide) rfl (fun ls hl => ?_)
        refine lv_iload hx hb dX5_best_78 (lv_at hl 0 rfl) ?_
        refine lv_iload_n hx hb dX5_best_80 rfl (lv_at hl 4 rfl) ?_
        refine lv_icmp_le (tgt := 89) hx hb dX5_best_81 (by decide) (fun c81 => ?_) (fun c81 => ?_)
        · rw [if_pos c81] at h
          refine lv_iload_n hx hb dX5_best_89 rfl (lv_at hl 3 rfl) ?_
          exact hj_90 _ _ _ _ _ h _ _ _ (lv_sub hl [1, 2, 4, 5, 0] rfl) hG
        · rw [if_neg c81] at h
          refine lv_iload hx hb dX5_best_84 (lv_at hl 5 rfl) ?_
          refine lv_goto (tgt := 90) hx hb dX5_best_86 (by decide) ?_
          exact hj_90 _ _ _ _ _ h _ _ _ (lv_sub hl [1, 2, 4, 5, 0] rfl) hG
  unfold fX5_best at h
  refine lv_aload_n hx hb dX5_best_0 rfl (lv_at hl 0 rfl) ?_
  refine lv_iload_n hx hb dX5_best_1 rfl (lv_at hl 1 rfl) ?_
  obtain ⟨v2, e2, h⟩ := bd1_some h
  refine x_vi (rest := []) (ws' := (wX5 cI ad deeds finding asked upper lower m_at wrong rowSize rows textSize texts spare now draft tried past kept keptPast keptDeeds findings worth)) hc hG (cc_X5_isPeel ad deeds finding asked upper lower m_at wrong rowSize rows textSize texts spare now draft tried past kept keptPast keptDeeds findings worth x1 v2 e2) [0, 1, 2, 3, 4, 5, 6, 7, 8, 9, 10, 11, 12, 13, 14] [] [0, 1, 2, 3, 4, 5, 6, 7, 8, 9, 10, 11, 12, 13, 14] rfl rfl rfl 0 rfl rfl lX5_170 ⟨rfl, rfl, by decide, by decide⟩ rfl hl.1 (Nat.le_of_ble_eq_true rfl) rfl dX5_best_2 (fun H locs hG => ?_)
  refine lv_if_ne (tgt := 10) hx hb dX5_best_5 (by decide) (fun c5 => ?_) (fun c5 => ?_)
  · rw [if_neg c5] at h
    refine lv_iconst (v := 0) hx hb dX5_best_10 (by decide) ?_
    refine lv_istore_n (lv' := [(2, .int 0), (0, .ref (ad 0)), (1, .int x1)]) hx hb dX5_best_11 rfl hl (by decide) rfl (fun ls hl => ?_)
    refine lv_iconst (v := (-1)) hx hb dX5_best_12 (by decide) ?_
    refine lv_istore_n (lv' := [(3, .int (-1)), (2, .int 0), (0, .ref (ad 0)), (1, .int x1)]) hx hb dX5_best_13 rfl hl (by decide) rfl (fun ls hl => ?_)
    refine lv_iconst (v := 0) hx hb dX5_best_14 (by decide) ?_
    refine lv_istore (lv' := [(4, .int 0), (3, .int (-1)), (2, .int 0), (0, .ref (ad 0)), (1, .int x1)]) hx hb dX5_best_15 hl (by decide) rfl (fun ls hl => ?_)
    obtain ⟨tried_L17, x2_L17, x3_L17, e17, h⟩ := bd3_some h
    refine hL_17 _ _ _ _ _ (fun ls H locs hl hG => ?_) _ _ _ _ _ e17 _ _ _ (lv_sub hl [3, 4, 2, 1, 0] rfl) hG
    refine lv_aload_n hx hb dX5_best_110 rfl (lv_at hl 0 rfl) ?_
    refine lv_iload_n hx hb dX5_best_111 rfl (lv_at hl 2 rfl) ?_
    obtain ⟨v112, asked_112, e112, h⟩ := bd2_some h
    refine x_vi (rest := []) (ws' := (wX5 cI ad deeds finding asked_112 upper lower m_at wrong rowSize rows textSize texts spare now draft tried_L17 past kept keptPast keptDeeds findings worth)) hc hG (cc_X5_tells ad deeds finding asked upper lower m_at wrong rowSize rows textSize texts spare now draft tried_L17 past kept keptPast keptDeeds findings worth x3_L17 v112 asked_112 e112) [0, 1, 2, 3, 4, 5, 6, 7, 8, 9, 10, 11, 12, 13, 14] [] [0, 1, 2, 3, 4, 5, 6, 7, 8, 9, 10, 11, 12, 13, 14] rfl rfl rfl 0 rfl rfl lX5_75 ⟨rfl, rfl, by decide, by decide⟩ rfl hl.1 (Nat.le_of_ble_eq_true rfl) rfl dX5_best_112 (fun H locs hG => ?_)
    refine lv_pop hx hb dX5_best_115 rfl ?_
    refine lv_iload_n hx hb dX5_best_116 rfl (lv_at hl 1 rfl) ?_
    cases h
    exact hret _ _ _ _ hG dX5_best_117 rfl
  · rw [if_pos c5] at h
    refine lv_iconst (v := (-1)) hx hb dX5_best_8 (by decide) ?_
    cases h
    exact hret _ _ _ _ hG dX5_best_9 rfl
set_option maxRecDepth 100000 in
set_option maxHeartbeats 4000000 in
theorem cc_X5_fills {l : Launch} {D : va_G} {cI : ClassId} {tL : Nat} (ad : Nat → Nat) (deeds : Int32) (finding : Int32) (asked : Int32) (upper : Int64) (lower : Int64) (m_at : Int32) (wrong : Int32) (rowSize : Nat → Int32) (rows : Nat → Int32) (textSize : Nat → Int32) (texts : Nat → Int32) (spare : Nat → Int32) (now : Nat → Int32) (draft : Nat → Int32) (tried : Nat → Int32) (past : Nat → Int32) (kept : Nat → Int32) (keptPast : Nat → Int32) (keptDeeds : Nat → Int32) (findings : Nat → Int32) (worth : Nat → Int32) (x1 : Int32) (x2 : Int32) (r' : Int32) (h : fX5_fills now x1 x2 = some r') : Ci l D cI tL yX5_fills cX5_fills 3 .boolean rmX5_fills (wX5 cI ad deeds finding asked upper lower m_at wrong rowSize rows textSize texts spare now draft tried past kept keptPast keptDeeds findings worth) [.ref (ad 0), .int x1, .int x2] r' (wX5 cI ad deeds finding asked upper lower m_at wrong rowSize rows textSize texts spare now draft tried past kept keptPast keptDeeds findings worth) := by
  refine Ci_of (own := RX5) (by decide) (Nat.le_of_ble_eq_true rfl) rfl ?_
  intro p e s m below meth c Q A AV hc hret ls hl hG
  obtain ⟨hx, hb, hml, hown, hts, hK, hA, hz⟩ := id hc
  have hl : lv_has ls 3 [(0, .ref (ad 0)), (1, .int x1), (2, .int x2)] := hl
  unfold fX5_fills at h
  refine lv_iload_n hx hb dX5_fills_0 rfl (lv_at hl 1 rfl) ?_
  refine lv_aload_n hx hb dX5_fills_1 rfl (lv_at hl 0 rfl) ?_
  refine x_get hc hG 0 rfl iX5 5 lX5_25 rfl dX5_fills_2 ?_
  refine lv_iconst (v := 4) hx hb dX5_fills_5 (by decide) ?_
  obtain ⟨v6, e6, h⟩ := bd1_some h
  refine x_ald hc hG 6 rfl e6 dX5_fills_6 ?_
  refine lv_iconst (v := (-1)) hx hb dX5_fills_7 (by decide) ?_
  refine lv_ixor hx hb dX5_fills_8 ?_
  refine lv_iand hx hb dX5_fills_9 ?_
  refine lv_if_ne (tgt := 38) hx hb dX5_fills_10 (by decide) (fun c10 => ?_) (fun c10 => ?_)
  · rw [if_neg c10] at h
    refine lv_iconst (v := 0) hx hb dX5_fills_38 (by decide) ?_
    cases h
    exact hret _ _ _ _ hG dX5_fills_39 rfl
  · rw [if_pos c10] at h
    refine lv_aload_n hx hb dX5_fills_13 rfl (lv_at hl 0 rfl) ?_
    refine x_get hc hG 0 rfl iX5 5 lX5_25 rfl dX5_fills_14 ?_
    refine lv_aload_n hx hb dX5_fills_17 rfl (lv_at hl 0 rfl) ?_
    refine x_get hc hG 0 rfl iX5 5 lX5_25 rfl dX5_fills_18 ?_
    refine lv_iconst (v := 0) hx hb dX5_fills_21 (by decide) ?_
    obtain ⟨v22, e22, h⟩ := bd1_some h
    refine x_si (rest := [.ref (ad 6)]) (ws' := (wX5 cI ad deeds finding asked upper lower m_at wrong rowSize rows textSize texts spare now draft tried past kept keptPast keptDeeds findings worth)) hc hG (cc_X5_coveredBut (fun k => ad (6 + k)) 35 now 0 v22 e22) [6] [0, 1, 2, 3, 4, 5, 7, 8, 9, 10, 11, 12, 13, 14] [0, 1, 2, 3, 4, 5, 14, 6, 7, 8, 9, 10, 11, 12, 13] rfl rfl rfl lX5_154 ⟨rfl, rfl, by decide, by decide⟩ rfl hl.1 (Nat.le_of_ble_eq_true rfl) rfl dX5_fills_22 (fun H locs hG => ?_)
    refine lv_iload_n hx hb dX5_fills_25 rfl (lv_at hl 1 rfl) ?_
    refine lv_ior hx hb dX5_fills_26 ?_
    obtain ⟨v27, e27, h⟩ := bd1_some h
    refine x_si (rest := []) (ws' := (wX5 cI ad deeds finding asked upper lower m_at wrong rowSize rows textSize texts spare now draft tried past kept keptPast keptDeeds findings worth)) hc hG (cc_X5_linesOf (fun k => ad (6 + k)) 35 now (v22 ||| x1) v27 e27) [6] [0, 1, 2, 3, 4, 5, 7, 8, 9, 10, 11, 12, 13, 14] [0, 1, 2, 3, 4, 5, 14, 6, 7, 8, 9, 10, 11, 12, 13] rfl rfl rfl lX5_157 ⟨rfl, rfl, by decide, by decide⟩ rfl hl.1 (Nat.le_of_ble_eq_true rfl) rfl dX5_fills_27 (fun H locs hG => ?_)
    refine lv_iload_n hx hb dX5_fills_30 rfl (lv_at hl 2 rfl) ?_
    refine lv_icmp_ne (tgt := 38) hx hb dX5_fills_31 (by decide) (fun c31 => ?_) (fun c31 => ?_)
    · rw [if_neg c31] at h
      refine lv_iconst (v := 0) hx hb dX5_fills_38 (by decide) ?_
      cases h
      exact hret _ _ _ _ hG dX5_fills_39 rfl
    · rw [if_pos c31] at h
      refine lv_iconst (v := 1) hx hb dX5_fills_34 (by decide) ?_
      refine lv_goto (tgt := 39) hx hb dX5_fills_35 (by decide) ?_
      cases h
      exact hret _ _ _ _ hG dX5_fills_39 rfl
set_option maxRecDepth 100000 in
set_option maxHeartbeats 4000000 in
theorem cc_X5_gap {l : Launch} {D : va_G} {cI : ClassId} {tL : Nat} (ad : Nat → Nat) (deeds : Int32) (finding : Int32) (asked : Int32) (upper : Int64) (lower : Int64) (m_at : Int32) (wrong : Int32) (rowSize : Nat → Int32) (rows : Nat → Int32) (textSize : Nat → Int32) (texts : Nat → Int32) (spare : Nat → Int32) (now : Nat → Int32) (draft : Nat → Int32) (tried : Nat → Int32) (past : Nat → Int32) (kept : Nat → Int32) (keptPast : Nat → Int32) (keptDeeds : Nat → Int32) (findings : Nat → Int32) (worth : Nat → Int32) (x1 : Int32) (r' : Int32) (asked' : Int32) (upper' : Int64) (lower' : Int64) (h : fX5_gap asked upper lower now x1 = some (r', asked', upper', lower')) : Ci l D cI tL yX5_gap cX5_gap 5 .int rmX5_gap (wX5 cI ad deeds finding asked upper lower m_at wrong rowSize rows textSize texts spare now draft tried past kept keptPast keptDeeds findings worth) [.ref (ad 0), .int x1] r' (wX5 cI ad deeds finding asked' upper' lower' m_at wrong rowSize rows textSize texts spare now draft tried past kept keptPast keptDeeds findings worth) := by
  refine Ci_of (own := RX5) (by decide) (Nat.le_of_ble_eq_true rfl) rfl ?_
  intro p e s m below meth c Q A AV hc hret ls hl hG
  obtain ⟨hx, hb, hml, hown, hts, hK, hA, hz⟩ := id hc
  have hl : lv_has ls 5 [(0, .ref (ad 0)), (1, .int x1)] := hl
  have hL_31 : ∀ (x1 : Int32) (asked : Int32) (upper : Int64) (lower : Int64) (x2_o : Int32) (x3_o : Int32), (∀ (ls : Array Slot) (H : Heap) (locs : List Loc), lv_has ls 5 [(0, .ref (ad 0)), (2, .int x2_o), (3, .int x3_o)] → St D A s (wX5 cI ad deeds finding asked upper lower m_at wrong rowSize rows textSize texts spare now draft tried past kept keptPast keptDeeds findings worth) H locs → W p l e rmX5_gap s m AV below meth c H locs 0 0 Q (F0 m 72 ls [])) → ∀ (n : Nat) (x2 : Int32) (x3 : Int32) (x4 : Int32), fX5_gap_L31 now x1 n x2 x3 x4 = some (x2_o, x3_o) → ∀ (ls : Array Slot) (H : Heap) (locs : List Loc), lv_has ls 5 [(0, .ref (ad 0)), (1, .int x1), (2, .int x2), (3, .int x3), (4, .int x4)] → St D A s (wX5 cI ad deeds finding asked upper lower m_at wrong rowSize rows textSize texts spare now draft tried past kept keptPast keptDeeds findings worth) H locs → W p l e rmX5_gap s m AV below meth c H locs 0 0 Q (F0 m 31 ls []) := by
    intro x1 asked upper lower x2_o x3_o KE n
    induction n with
    | zero =>
      intro x2 x3 x4 h
      exact nomatch (show none = some _ from h)
    | succ n ih =>
      intro x2 x3 x4 h ls H locs hl hG
      have h : fX5_gap_B31 now x1 (fX5_gap_L31 now x1 n) x2 x3 x4 = some (x2_o, x3_o) := h
      have hj_66 : ∀ (x2 : Int32) (x3 : Int32) (x4 : Int32) , fX5_gap_j66 (fX5_gap_L31 now x1 n) now x1 x2 x3 x4 = some (x2_o, x3_o) → ∀ (ls : Array Slot) (H : Heap) (locs : List Loc), lv_has ls 5 [(0, .ref (ad 0)), (1, .int x1), (2, .int x2), (3, .int x3), (4, .int x4)] → St D A s (wX5 cI ad deeds finding asked upper lower m_at wrong rowSize rows textSize texts spare now draft tried past kept keptPast keptDeeds findings worth) H locs → W p l e rmX5_gap s m AV below meth c H locs 0 0 Q (F0 m 66 ls []) := by
        intro x2 x3 x4 h ls H locs hl hG
        unfold fX5_gap_j66 at h
        refine lv_iinc (v := (x4 + 1)) (lv' := [(4, .int (x4 + 1)), (0, .ref (ad 0)), (1, .int x1), (2, .int x2), (3, .int x3)]) hx hb dX5_gap_66 hl (k := 4) rfl rfl (by decide) rfl (fun ls hl => ?_)
        refine lv_goto (tgt := 31) hx hb dX5_gap_69 (by decide) ?_
        exact ih _ _ _ h _ _ _ (lv_sub hl [1, 2, 3, 4, 0] rfl) hG
      have hj_62 : ∀ (x2 : Int32) (x4 : Int32) (k0 : Int32) , fX5_gap_j62 (fX5_gap_L31 now x1 n) now x1 x2 x4 k0 = some (x2_o, x3_o) → ∀ (ls : Array Slot) (H : Heap) (locs : List Loc), lv_has ls 5 [(0, .ref (ad 0)), (1, .int x1), (2, .int x2), (4, .int x4)] → St D A s (wX5 cI ad deeds finding asked upper lower m_at wrong rowSize rows textSize texts spare now draft tried past kept keptPast keptDeeds findings worth) H locs → W p l e rmX5_gap s m AV below meth c H locs 0 0 Q (F0 m 62 ls [.int k0]) := by
        intro x2 x4 k0 h ls H locs hl hG
        unfold fX5_gap_j62 at h
        refine lv_istore_n (lv' := [(3, .int k0), (0, .ref (ad 0)), (1, .int x1), (2, .int x2), (4, .int x4)]) hx hb dX5_gap_62 rfl hl (by decide) rfl (fun ls hl => ?_)
        refine lv_iinc (v := (x2 + 1)) (lv' := [(2, .int (x2 + 1)), (3, .int k0), (0, .ref (ad 0)), (1, .int x1), (4, .int x4)]) hx hb dX5_gap_63 hl (k := 3) rfl rfl (by decide) rfl (fun ls hl => ?_)
        exact hj_66 _ _ _ h _ _ _ (lv_sub hl [2, 3, 0, 1, 4] rfl) hG
      unfold fX5_gap_B31 at h
      refine lv_iload hx hb dX5_gap_31 (lv_at hl 4 rfl) ?_
      refine lv_aload_n hx hb dX5_gap_33 rfl (lv_at hl 0 rfl) ?_
      refine x_get hc hG 0 rfl iX5 5 lX5_25 rfl dX5_gap_34 ?_
      refine lv_iconst (v := 4) hx hb dX5_gap_37 (by decide) ?_
      obtain ⟨v38, e38, h⟩ := bd1_some h
      refine x_ald hc hG 6 rfl e38 dX5_gap_38 ?_
      refine lv_icmp_gt (tgt := 72) hx hb dX5_gap_39 (by decide) (fun c39 => ?_) (fun c39 => ?_)
      · rw [if_pos c39] at h
        cases h
        exact KE _ _ _ (lv_sub hl [0, 2, 3] rfl) hG
      · rw [if_neg c39] at h
        refine lv_aload_n hx hb dX5_gap_42 rfl (lv_at hl 0 rfl) ?_
        refine lv_iload hx hb dX5_gap_43 (lv_at hl 4 rfl) ?_
        refine lv_iload_n hx hb dX5_gap_45 rfl (lv_at hl 1 rfl) ?_
        obtain ⟨v46, e46, h⟩ := bd1_some h
        refine x_vi (rest := []) (ws' := (wX5 cI ad deeds finding asked upper lower m_at wrong rowSize rows textSize texts spare now draft tried past kept keptPast keptDeeds findings worth)) hc hG (cc_X5_fills ad deeds finding asked upper lower m_at wrong rowSize rows textSize texts spare now draft tried past kept keptPast keptDeeds findings worth x4 x1 v46 e46) [0, 1, 2, 3, 4, 5, 6, 7, 8, 9, 10, 11, 12, 13, 14] [] [0, 1, 2, 3, 4, 5, 6, 7, 8, 9, 10, 11, 12, 13, 14] rfl rfl rfl 0 rfl rfl lX5_212 ⟨rfl, rfl, by decide, by decide⟩ rfl hl.1 (Nat.le_of_ble_eq_true rfl) rfl dX5_gap_46 (fun H locs hG => ?_)
        refine lv_if_eq (tgt := 66) hx hb dX5_gap_49 (by decide) (fun c49 => ?_) (fun c49 => ?_)
        · rw [if_pos c49] at h
          exact hj_66 _ _ _ h _ _ _ (lv_sub hl [0, 1, 2, 3, 4] rfl) hG
        · rw [if_neg c49] at h
          refine lv_iload_n hx hb dX5_gap_52 rfl (lv_at hl 2 rfl) ?_
          refine lv_if_ne (tgt := 61) hx hb dX5_gap_53 (by decide) (fun c53 => ?_) (fun c53 => ?_)
          · rw [if_neg c53] at h
            refine lv_iload_n hx hb dX5_gap_61 rfl (lv_at hl 3 rfl) ?_
            exact hj_62 _ _ _ h _ _ _ (lv_sub hl [0, 1, 2, 4] rfl) hG
          · rw [if_pos c53] at h
            refine lv_iload hx hb dX5_gap_56 (lv_at hl 4 rfl) ?_
            refine lv_goto (tgt := 62) hx hb dX5_gap_58 (by decide) ?_
            exact hj_62 _ _ _ h _ _ _ (lv_sub hl [0, 1, 2, 4] rfl) hG
  unfold fX5_gap at h
  refine lv_iload_n hx hb dX5_gap_0 rfl (lv_at hl 1 rfl) ?_
  refine lv_iconst (v := 0) hx hb dX5_gap_1 (by decide) ?_
  refine lv_sipush (v := 255) hx hb dX5_gap_2 (by decide) ?_
  obtain ⟨v5, e5, h⟩ := bd1_some h
  refine x_si0 (rest := []) hc hG (cc_X5_in0 x1 0 255 v5 e5) lX5_63 ⟨rfl, rfl, by decide, by decide⟩ rfl hl.1 (Nat.le_of_ble_eq_true rfl) rfl dX5_gap_5 (fun H locs hG => ?_)
  refine lv_if_ne (tgt := 13) hx hb dX5_gap_8 (by decide) (fun c8 => ?_) (fun c8 => ?_)
  · rw [if_neg c8] at h
    refine lv_aload_n hx hb dX5_gap_13 rfl (lv_at hl 0 rfl) ?_
    obtain ⟨v14, e14, h⟩ := bd1_some h
    refine x_vi (rest := []) (ws' := (wX5 cI ad deeds finding asked upper lower m_at wrong rowSize rows textSize texts spare now draft tried past kept keptPast keptDeeds findings worth)) hc hG (cc_X5_isAny ad deeds finding asked upper lower m_at wrong rowSize rows textSize texts spare now draft tried past kept keptPast keptDeeds findings worth v14 e14) [0, 1, 2, 3, 4, 5, 6, 7, 8, 9, 10, 11, 12, 13, 14] [] [0, 1, 2, 3, 4, 5, 6, 7, 8, 9, 10, 11, 12, 13, 14] rfl rfl rfl 0 rfl rfl lX5_186 ⟨rfl, rfl, by decide, by decide⟩ rfl hl.1 (Nat.le_of_ble_eq_true rfl) rfl dX5_gap_14 (fun H locs hG => ?_)
    refine lv_if_ne (tgt := 23) hx hb dX5_gap_17 (by decide) (fun c17 => ?_) (fun c17 => ?_)
    · rw [if_neg c17] at h
      refine lv_iconst (v := 0) hx hb dX5_gap_23 (by decide) ?_
      refine lv_istore_n (lv' := [(2, .int 0), (0, .ref (ad 0)), (1, .int x1)]) hx hb dX5_gap_24 rfl hl (by decide) rfl (fun ls hl => ?_)
      refine lv_bipush (v := (-9)) hx hb dX5_gap_25 (by decide) ?_
      refine lv_istore_n (lv' := [(3, .int (-9)), (2, .int 0), (0, .ref (ad 0)), (1, .int x1)]) hx hb dX5_gap_27 rfl hl (by decide) rfl (fun ls hl => ?_)
      refine lv_iconst (v := 0) hx hb dX5_gap_28 (by decide) ?_
      refine lv_istore (lv' := [(4, .int 0), (3, .int (-9)), (2, .int 0), (0, .ref (ad 0)), (1, .int x1)]) hx hb dX5_gap_29 hl (by decide) rfl (fun ls hl => ?_)
      obtain ⟨x2_L31, x3_L31, e31, h⟩ := bd2_some h
      refine hL_31 _ _ _ _ _ _ (fun ls H locs hl hG => ?_) _ _ _ _ e31 _ _ _ (lv_sub hl [3, 4, 2, 1, 0] rfl) hG
      refine lv_aload_n hx hb dX5_gap_72 rfl (lv_at hl 0 rfl) ?_
      refine lv_iload_n hx hb dX5_gap_73 rfl (lv_at hl 1 rfl) ?_
      refine lv_i2l hx hb dX5_gap_74 rfl ?_
      refine x_put (ws' := (wX5 cI ad deeds finding asked (Int32.toInt64 x2_L31) lower m_at wrong rowSize rows textSize texts spare now draft tried past kept keptPast keptDeeds findings worth)) hc hG 0 rfl iX5 tyX5 tyX5_ok nmX5 16 lX5_215 rfl rfl rfl (Nat.le_of_ble_eq_true rfl) rfl dX5_gap_75 (fun H locs hG => ?_)
      refine lv_aload_n hx hb dX5_gap_78 rfl (lv_at hl 0 rfl) ?_
      refine lv_lconst (v := 1) hx hb dX5_gap_79 (by decide) ?_
      refine x_put (ws' := (wX5 cI ad deeds finding asked (Int32.toInt64 x2_L31) 1 m_at wrong rowSize rows textSize texts spare now draft tried past kept keptPast keptDeeds findings worth)) hc hG 0 rfl iX5 tyX5 tyX5_ok nmX5 17 lX5_49 rfl rfl rfl (Nat.le_of_ble_eq_true rfl) rfl dX5_gap_80 (fun H locs hG => ?_)
      refine lv_aload_n hx hb dX5_gap_83 rfl (lv_at hl 0 rfl) ?_
      refine lv_iload_n hx hb dX5_gap_84 rfl (lv_at hl 2 rfl) ?_
      obtain ⟨v85, asked_85, e85, h⟩ := bd2_some h
      refine x_vi (rest := []) (ws' := (wX5 cI ad deeds finding asked_85 (Int32.toInt64 x2_L31) 1 m_at wrong rowSize rows textSize texts spare now draft tried past kept keptPast keptDeeds findings worth)) hc hG (cc_X5_tells ad deeds finding asked (Int32.toInt64 x2_L31) 1 m_at wrong rowSize rows textSize texts spare now draft tried past kept keptPast keptDeeds findings worth x3_L31 v85 asked_85 e85) [0, 1, 2, 3, 4, 5, 6, 7, 8, 9, 10, 11, 12, 13, 14] [] [0, 1, 2, 3, 4, 5, 6, 7, 8, 9, 10, 11, 12, 13, 14] rfl rfl rfl 0 rfl rfl lX5_75 ⟨rfl, rfl, by decide, by decide⟩ rfl hl.1 (Nat.le_of_ble_eq_true rfl) rfl dX5_gap_85 (fun H locs hG => ?_)
      cases h
      exact hret _ _ _ _ hG dX5_gap_88 rfl
    · rw [if_pos c17] at h
      refine lv_bipush (v := (-4)) hx hb dX5_gap_20 (by decide) ?_
      cases h
      exact hret _ _ _ _ hG dX5_gap_22 rfl
  · rw [if_pos c8] at h
    refine lv_iconst (v := (-1)) hx hb dX5_gap_11 (by decide) ?_
    cases h
    exact hret _ _ _ _ hG dX5_gap_12 rfl
