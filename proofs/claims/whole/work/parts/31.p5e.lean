set_option maxRecDepth 100000 in
set_option maxHeartbeats 4000000 in
theorem cc_X5_odds {l : Launch} {D : va_G} {cI : ClassId} {tL : Nat} (ad : Nat → Nat) (deeds : Int32) (finding : Int32) (asked : Int32) (upper : Int64) (lower : Int64) (m_at : Int32) (wrong : Int32) (rowSize : Nat → Int32) (rows : Nat → Int32) (textSize : Nat → Int32) (texts : Nat → Int32) (spare : Nat → Int32) (now : Nat → Int32) (draft : Nat → Int32) (tried : Nat → Int32) (past : Nat → Int32) (kept : Nat → Int32) (keptPast : Nat → Int32) (keptDeeds : Nat → Int32) (findings : Nat → Int32) (worth : Nat → Int32) (x1 : Int32) (x2 : Int32) (r' : Int32) (upper' : Int64) (lower' : Int64) (h : fX5_odds upper lower now x1 x2 = some (r', upper', lower')) : Ci l D cI tL yX5_odds cX5_odds 3 .int rmX5_odds (wX5 cI ad deeds finding asked upper lower m_at wrong rowSize rows textSize texts spare now draft tried past kept keptPast keptDeeds findings worth) [.ref (ad 0), .int x1, .int x2] r' (wX5 cI ad deeds finding asked upper' lower' m_at wrong rowSize rows textSize texts spare now draft tried past kept keptPast keptDeeds findings worth) := by
  refine Ci_of (own := RX5) (by decide) (Nat.le_of_ble_eq_true rfl) rfl ?_
  intro p e s m below meth c Q A AV hc hret ls hl hG
  obtain ⟨hx, hb, hml, hown, hts, hK, hA, hz⟩ := id hc
  have hl : lv_has ls 3 [(0, .ref (ad 0)), (1, .int x1), (2, .int x2)] := hl
  unfold fX5_odds at h
  refine lv_iload_n hx hb dX5_odds_0 rfl (lv_at hl 1 rfl) ?_
  refine lv_iconst (v := 0) hx hb dX5_odds_1 (by decide) ?_
  refine lv_bipush (v := 7) hx hb dX5_odds_2 (by decide) ?_
  obtain ⟨v4, e4, h⟩ := bd1_some h
  refine x_si0 (rest := []) hc hG (cc_X5_in0 x1 0 7 v4 e4) lX5_63 ⟨rfl, rfl, by decide, by decide⟩ rfl hl.1 (Nat.le_of_ble_eq_true rfl) rfl dX5_odds_4 (fun H locs hG => ?_)
  refine lv_if_eq (tgt := 20) hx hb dX5_odds_7 (by decide) (fun c7 => ?_) (fun c7 => ?_)
  · rw [if_pos c7] at h
    refine lv_iconst (v := (-1)) hx hb dX5_odds_20 (by decide) ?_
    cases h
    exact hret _ _ _ _ hG dX5_odds_21 rfl
  · rw [if_neg c7] at h
    refine lv_iload_n hx hb dX5_odds_10 rfl (lv_at hl 2 rfl) ?_
    refine lv_iconst (v := 0) hx hb dX5_odds_11 (by decide) ?_
    refine lv_bipush (v := 12) hx hb dX5_odds_12 (by decide) ?_
    obtain ⟨v14, e14, h⟩ := bd1_some h
    refine x_si0 (rest := []) hc hG (cc_X5_in0 x2 0 12 v14 e14) lX5_63 ⟨rfl, rfl, by decide, by decide⟩ rfl hl.1 (Nat.le_of_ble_eq_true rfl) rfl dX5_odds_14 (fun H locs hG => ?_)
    refine lv_if_ne (tgt := 22) hx hb dX5_odds_17 (by decide) (fun c17 => ?_) (fun c17 => ?_)
    · rw [if_neg c17] at h
      refine lv_aload_n hx hb dX5_odds_22 rfl (lv_at hl 0 rfl) ?_
      obtain ⟨v23, e23, h⟩ := bd1_some h
      refine x_vi (rest := []) (ws' := (wX5 cI ad deeds finding asked upper lower m_at wrong rowSize rows textSize texts spare now draft tried past kept keptPast keptDeeds findings worth)) hc hG (cc_X5_isAny ad deeds finding asked upper lower m_at wrong rowSize rows textSize texts spare now draft tried past kept keptPast keptDeeds findings worth v23 e23) [0, 1, 2, 3, 4, 5, 6, 7, 8, 9, 10, 11, 12, 13, 14] [] [0, 1, 2, 3, 4, 5, 6, 7, 8, 9, 10, 11, 12, 13, 14] rfl rfl rfl 0 rfl rfl lX5_186 ⟨rfl, rfl, by decide, by decide⟩ rfl hl.1 (Nat.le_of_ble_eq_true rfl) rfl dX5_odds_23 (fun H locs hG => ?_)
      refine lv_if_eq (tgt := 38) hx hb dX5_odds_26 (by decide) (fun c26 => ?_) (fun c26 => ?_)
      · rw [if_pos c26] at h
        refine lv_bipush (v := (-4)) hx hb dX5_odds_38 (by decide) ?_
        cases h
        exact hret _ _ _ _ hG dX5_odds_40 rfl
      · rw [if_neg c26] at h
        refine lv_aload_n hx hb dX5_odds_29 rfl (lv_at hl 0 rfl) ?_
        refine lv_iload_n hx hb dX5_odds_30 rfl (lv_at hl 1 rfl) ?_
        refine lv_iload_n hx hb dX5_odds_31 rfl (lv_at hl 2 rfl) ?_
        obtain ⟨v32, upper_32, lower_32, e32, h⟩ := bd3_some h
        refine x_vi (rest := []) (ws' := (wX5 cI ad deeds finding asked upper_32 lower_32 m_at wrong rowSize rows textSize texts spare now draft tried past kept keptPast keptDeeds findings worth)) hc hG (cc_X5_chances ad deeds finding asked upper lower m_at wrong rowSize rows textSize texts spare now draft tried past kept keptPast keptDeeds findings worth x1 x2 v32 upper_32 lower_32 e32) [0, 1, 2, 3, 4, 5, 6, 7, 8, 9, 10, 11, 12, 13, 14] [] [0, 1, 2, 3, 4, 5, 6, 7, 8, 9, 10, 11, 12, 13, 14] rfl rfl rfl 0 rfl rfl lX5_240 ⟨rfl, rfl, by decide, by decide⟩ rfl hl.1 (Nat.le_of_ble_eq_true rfl) rfl dX5_odds_32 (fun H locs hG => ?_)
        refine lv_goto (tgt := 40) hx hb dX5_odds_35 (by decide) ?_
        cases h
        exact hret _ _ _ _ hG dX5_odds_40 rfl
    · rw [if_pos c17] at h
      refine lv_iconst (v := (-1)) hx hb dX5_odds_20 (by decide) ?_
      cases h
      exact hret _ _ _ _ hG dX5_odds_21 rfl
set_option maxRecDepth 100000 in
set_option maxHeartbeats 4000000 in
theorem cc_X5_mid {l : Launch} {D : va_G} {cI : ClassId} {tL : Nat} (ad : Nat → Nat) (deeds : Int32) (finding : Int32) (asked : Int32) (upper : Int64) (lower : Int64) (m_at : Int32) (wrong : Int32) (rowSize : Nat → Int32) (rows : Nat → Int32) (textSize : Nat → Int32) (texts : Nat → Int32) (spare : Nat → Int32) (now : Nat → Int32) (draft : Nat → Int32) (tried : Nat → Int32) (past : Nat → Int32) (kept : Nat → Int32) (keptPast : Nat → Int32) (keptDeeds : Nat → Int32) (findings : Nat → Int32) (worth : Nat → Int32) (x1 : Int32) (r' : Int32) (upper' : Int64) (lower' : Int64) (h : fX5_mid upper lower now x1 = some (r', upper', lower')) : Ci l D cI tL yX5_mid cX5_mid 2 .int rmX5_mid (wX5 cI ad deeds finding asked upper lower m_at wrong rowSize rows textSize texts spare now draft tried past kept keptPast keptDeeds findings worth) [.ref (ad 0), .int x1] r' (wX5 cI ad deeds finding asked upper' lower' m_at wrong rowSize rows textSize texts spare now draft tried past kept keptPast keptDeeds findings worth) := by
  refine Ci_of (own := RX5) (by decide) (Nat.le_of_ble_eq_true rfl) rfl ?_
  intro p e s m below meth c Q A AV hc hret ls hl hG
  obtain ⟨hx, hb, hml, hown, hts, hK, hA, hz⟩ := id hc
  have hl : lv_has ls 2 [(0, .ref (ad 0)), (1, .int x1)] := hl
  unfold fX5_mid at h
  refine lv_iload_n hx hb dX5_mid_0 rfl (lv_at hl 1 rfl) ?_
  refine lv_iconst (v := 0) hx hb dX5_mid_1 (by decide) ?_
  refine lv_bipush (v := 12) hx hb dX5_mid_2 (by decide) ?_
  obtain ⟨v4, e4, h⟩ := bd1_some h
  refine x_si0 (rest := []) hc hG (cc_X5_in0 x1 0 12 v4 e4) lX5_63 ⟨rfl, rfl, by decide, by decide⟩ rfl hl.1 (Nat.le_of_ble_eq_true rfl) rfl dX5_mid_4 (fun H locs hG => ?_)
  refine lv_if_ne (tgt := 12) hx hb dX5_mid_7 (by decide) (fun c7 => ?_) (fun c7 => ?_)
  · rw [if_neg c7] at h
    refine lv_aload_n hx hb dX5_mid_12 rfl (lv_at hl 0 rfl) ?_
    obtain ⟨v13, e13, h⟩ := bd1_some h
    refine x_vi (rest := []) (ws' := (wX5 cI ad deeds finding asked upper lower m_at wrong rowSize rows textSize texts spare now draft tried past kept keptPast keptDeeds findings worth)) hc hG (cc_X5_isAny ad deeds finding asked upper lower m_at wrong rowSize rows textSize texts spare now draft tried past kept keptPast keptDeeds findings worth v13 e13) [0, 1, 2, 3, 4, 5, 6, 7, 8, 9, 10, 11, 12, 13, 14] [] [0, 1, 2, 3, 4, 5, 6, 7, 8, 9, 10, 11, 12, 13, 14] rfl rfl rfl 0 rfl rfl lX5_186 ⟨rfl, rfl, by decide, by decide⟩ rfl hl.1 (Nat.le_of_ble_eq_true rfl) rfl dX5_mid_13 (fun H locs hG => ?_)
    refine lv_if_eq (tgt := 28) hx hb dX5_mid_16 (by decide) (fun c16 => ?_) (fun c16 => ?_)
    · rw [if_pos c16] at h
      refine lv_bipush (v := (-4)) hx hb dX5_mid_28 (by decide) ?_
      cases h
      exact hret _ _ _ _ hG dX5_mid_30 rfl
    · rw [if_neg c16] at h
      refine lv_aload_n hx hb dX5_mid_19 rfl (lv_at hl 0 rfl) ?_
      refine lv_iconst (v := (-1)) hx hb dX5_mid_20 (by decide) ?_
      refine lv_iload_n hx hb dX5_mid_21 rfl (lv_at hl 1 rfl) ?_
      obtain ⟨v22, upper_22, lower_22, e22, h⟩ := bd3_some h
      refine x_vi (rest := []) (ws' := (wX5 cI ad deeds finding asked upper_22 lower_22 m_at wrong rowSize rows textSize texts spare now draft tried past kept keptPast keptDeeds findings worth)) hc hG (cc_X5_chances ad deeds finding asked upper lower m_at wrong rowSize rows textSize texts spare now draft tried past kept keptPast keptDeeds findings worth (-1) x1 v22 upper_22 lower_22 e22) [0, 1, 2, 3, 4, 5, 6, 7, 8, 9, 10, 11, 12, 13, 14] [] [0, 1, 2, 3, 4, 5, 6, 7, 8, 9, 10, 11, 12, 13, 14] rfl rfl rfl 0 rfl rfl lX5_240 ⟨rfl, rfl, by decide, by decide⟩ rfl hl.1 (Nat.le_of_ble_eq_true rfl) rfl dX5_mid_22 (fun H locs hG => ?_)
      refine lv_goto (tgt := 30) hx hb dX5_mid_25 (by decide) ?_
      cases h
      exact hret _ _ _ _ hG dX5_mid_30 rfl
  · rw [if_pos c7] at h
    refine lv_iconst (v := (-1)) hx hb dX5_mid_10 (by decide) ?_
    cases h
    exact hret _ _ _ _ hG dX5_mid_11 rfl
set_option maxRecDepth 100000 in
set_option maxHeartbeats 4000000 in
theorem cc_X5_lot {l : Launch} {D : va_G} {cI : ClassId} {tL : Nat} (ad : Nat → Nat) (deeds : Int32) (finding : Int32) (asked : Int32) (upper : Int64) (lower : Int64) (m_at : Int32) (wrong : Int32) (rowSize : Nat → Int32) (rows : Nat → Int32) (textSize : Nat → Int32) (texts : Nat → Int32) (spare : Nat → Int32) (now : Nat → Int32) (draft : Nat → Int32) (tried : Nat → Int32) (past : Nat → Int32) (kept : Nat → Int32) (keptPast : Nat → Int32) (keptDeeds : Nat → Int32) (findings : Nat → Int32) (worth : Nat → Int32) (x1 : Int64) (now' : Nat → Int32) (h : fX5_lot now x1 = some now') : Cv l D cI tL yX5_lot cX5_lot 6 rmX5_lot (wX5 cI ad deeds finding asked upper lower m_at wrong rowSize rows textSize texts spare now draft tried past kept keptPast keptDeeds findings worth) [.ref (ad 0), .long x1] (wX5 cI ad deeds finding asked upper lower m_at wrong rowSize rows textSize texts spare now' draft tried past kept keptPast keptDeeds findings worth) := by
  refine Cv_of (own := RX5) (by decide) (Nat.le_of_ble_eq_true rfl) rfl ?_
  intro p e s m below meth c Q A AV hc hret ls hl hG
  obtain ⟨hx, hb, hml, hown, hts, hK, hA, hz⟩ := id hc
  have hl : lv_has ls 6 [(0, .ref (ad 0)), (1, .long x1)] := hl
  have hj_155 : ∀ (now : Nat → Int32) (k1 : Int32) (k2 : Int32) (k3 : Int32) , fX5_lot_j155 now k1 k2 k3 = some now' → ∀ (ls : Array Slot) (H : Heap) (locs : List Loc), lv_has ls 6 [(0, .ref (ad 0))] → St D A s (wX5 cI ad deeds finding asked upper lower m_at wrong rowSize rows textSize texts spare now draft tried past kept keptPast keptDeeds findings worth) H locs → W p l e rmX5_lot s m AV below meth c H locs 0 0 Q (F0 m 155 ls [.int k3, .int k2, .int k1, .ref (ad 6)]) := by
    intro now k1 k2 k3 h ls H locs hl hG
    unfold fX5_lot_j155 at h
    refine lv_ixor hx hb dX5_lot_155 ?_
    obtain ⟨now_156, e156, h⟩ := bd1_some h
    refine x_ast (ws' := (wX5 cI ad deeds finding asked upper lower m_at wrong rowSize rows textSize texts spare now_156 draft tried past kept keptPast keptDeeds findings worth)) hc hG 6 rfl e156 rfl dX5_lot_156 (fun H locs hG => ?_)
    cases h
    exact hret _ _ _ _ hG dX5_lot_157
  unfold fX5_lot at h
  refine lv_lload_n hx hb dX5_lot_0 rfl (lv_at hl 1 rfl) ?_
  refine lv_ldc2 (v := 8) hx hb hown (hts _ kX5_243) dX5_lot_1 ?_
  refine lv_ldiv hx hb dX5_lot_4 (by decide) ?_
  refine lv_ldc2 (v := 8) hx hb hown (hts _ kX5_243) dX5_lot_5 ?_
  refine lv_lrem hx hb dX5_lot_8 (by decide) ?_
  refine lv_l2i hx hb dX5_lot_9 rfl ?_
  refine lv_istore_n (lv' := [(3, .int (Int64.toInt32 ((x1 / 8) - (x1 / 8) / 8 * 8))), (0, .ref (ad 0)), (1, .long x1)]) hx hb dX5_lot_10 rfl hl (by decide) rfl (fun ls hl => ?_)
  refine lv_iconst (v := 5) hx hb dX5_lot_11 (by decide) ?_
  refine lv_iconst (v := 5) hx hb dX5_lot_12 (by decide) ?_
  refine lv_lload_n hx hb dX5_lot_13 rfl (lv_at hl 2 rfl) ?_
  refine lv_aload_n hx hb dX5_lot_14 rfl (lv_at hl 1 rfl) ?_
  refine x_get hc hG 0 rfl iX5 5 lX5_25 rfl dX5_lot_15 ?_
  refine lv_iconst (v := 1) hx hb dX5_lot_18 (by decide) ?_
  obtain ⟨v19, e19, h⟩ := bd1_some h
  refine x_ald hc hG 6 rfl e19 dX5_lot_19 ?_
  refine lv_i2l hx hb dX5_lot_20 rfl ?_
  by_cases c21 : (Int32.toInt64 v19) = 0
  · rw [if_pos c21] at h
    cases h
  · rw [if_neg c21] at h
    refine lv_lrem hx hb dX5_lot_21 c21 ?_
    refine lv_l2i hx hb dX5_lot_22 rfl ?_
    refine lv_imul hx hb dX5_lot_23 ?_
    refine lv_iadd hx hb dX5_lot_24 ?_
    refine lv_istore (lv' := [(4, .int (5 + (5 * (Int64.toInt32 (x1 - x1 / (Int32.toInt64 v19) * (Int32.toInt64 v19)))))), (3, .int (Int64.toInt32 ((x1 / 8) - (x1 / 8) / 8 * 8))), (0, .ref (ad 0)), (1, .long x1)]) hx hb dX5_lot_25 hl (by decide) rfl (fun ls hl => ?_)
    refine lv_lload_n hx hb dX5_lot_27 rfl (lv_at hl 3 rfl) ?_
    refine lv_ldc2 (v := 64) hx hb hown (hts _ kX5_245) dX5_lot_28 ?_
    refine lv_ldiv hx hb dX5_lot_31 (by decide) ?_
    refine lv_ldc2 (v := 16) hx hb hown (hts _ kX5_247) dX5_lot_32 ?_
    refine lv_lrem hx hb dX5_lot_35 (by decide) ?_
    refine lv_l2i hx hb dX5_lot_36 rfl ?_
    refine lv_istore (lv' := [(5, .int (Int64.toInt32 ((x1 / 64) - (x1 / 64) / 16 * 16))), (4, .int (5 + (5 * (Int64.toInt32 (x1 - x1 / (Int32.toInt64 v19) * (Int32.toInt64 v19)))))), (3, .int (Int64.toInt32 ((x1 / 8) - (x1 / 8) / 8 * 8))), (0, .ref (ad 0)), (1, .long x1)]) hx hb dX5_lot_37 hl (by decide) rfl (fun ls hl => ?_)
    refine lv_iload_n hx hb dX5_lot_39 rfl (lv_at hl 2 rfl) ?_
    refine lv_iconst (v := 4) hx hb dX5_lot_40 (by decide) ?_
    refine lv_icmp_ge (tgt := 55) hx hb dX5_lot_41 (by decide) (fun c41 => ?_) (fun c41 => ?_)
    · rw [if_pos c41] at h
      refine lv_iload_n hx hb dX5_lot_55 rfl (lv_at hl 2 rfl) ?_
      refine lv_iconst (v := 4) hx hb dX5_lot_56 (by decide) ?_
      refine lv_icmp_ne (tgt := 74) hx hb dX5_lot_57 (by decide) (fun c57 => ?_) (fun c57 => ?_)
      · rw [if_neg c57] at h
        refine lv_iload_n hx hb dX5_lot_74 rfl (lv_at hl 2 rfl) ?_
        refine lv_iconst (v := 5) hx hb dX5_lot_75 (by decide) ?_
        refine lv_icmp_ne (tgt := 102) hx hb dX5_lot_76 (by decide) (fun c76 => ?_) (fun c76 => ?_)
        · rw [if_neg c76] at h
          refine lv_iload_n hx hb dX5_lot_102 rfl (lv_at hl 2 rfl) ?_
          refine lv_bipush (v := 6) hx hb dX5_lot_103 (by decide) ?_
          refine lv_icmp_ne (tgt := 131) hx hb dX5_lot_105 (by decide) (fun c105 => ?_) (fun c105 => ?_)
          · rw [if_neg c105] at h
            refine lv_aload_n hx hb dX5_lot_131 rfl (lv_at hl 3 rfl) ?_
            refine x_get hc hG 0 rfl iX5 5 lX5_25 rfl dX5_lot_132 ?_
            refine lv_iconst (v := 4) hx hb dX5_lot_135 (by decide) ?_
            refine lv_dup2_11 hx hb dX5_lot_136 rfl rfl ?_
            obtain ⟨v137, e137, h⟩ := bd1_some h
            refine x_ald hc hG 6 rfl e137 dX5_lot_137 ?_
            refine lv_aload_n hx hb dX5_lot_138 rfl (lv_at hl 3 rfl) ?_
            refine lv_iload hx hb dX5_lot_139 (lv_at hl 0 rfl) ?_
            obtain ⟨v141, e141, h⟩ := bd1_some h
            refine x_vi (rest := [.int v137, .int 4, .ref (ad 6)]) (ws' := (wX5 cI ad deeds finding asked upper lower m_at wrong rowSize rows textSize texts spare now draft tried past kept keptPast keptDeeds findings worth)) hc hG (cc_X5_mayLick ad deeds finding asked upper lower m_at wrong rowSize rows textSize texts spare now draft tried past kept keptPast keptDeeds findings worth (Int64.toInt32 ((x1 / 64) - (x1 / 64) / 16 * 16)) v141 e141) [0, 1, 2, 3, 4, 5, 6, 7, 8, 9, 10, 11, 12, 13, 14] [] [0, 1, 2, 3, 4, 5, 6, 7, 8, 9, 10, 11, 12, 13, 14] rfl rfl rfl 0 rfl rfl lX5_199 ⟨rfl, rfl, by decide, by decide⟩ rfl hl.1 (Nat.le_of_ble_eq_true rfl) rfl dX5_lot_141 (fun H locs hG => ?_)
            refine lv_if_eq (tgt := 154) hx hb dX5_lot_144 (by decide) (fun c144 => ?_) (fun c144 => ?_)
            · rw [if_pos c144] at h
              refine lv_iconst (v := 0) hx hb dX5_lot_154 (by decide) ?_
              exact hj_155 _ _ _ _ h _ _ _ (lv_sub hl [3] rfl) hG
            · rw [if_neg c144] at h
              refine lv_iconst (v := 1) hx hb dX5_lot_147 (by decide) ?_
              refine lv_iload hx hb dX5_lot_148 (lv_at hl 0 rfl) ?_
              refine lv_ishl hx hb dX5_lot_150 ?_
              refine lv_goto (tgt := 155) hx hb dX5_lot_151 (by decide) ?_
              exact hj_155 _ _ _ _ h _ _ _ (lv_sub hl [3] rfl) hG
          · rw [if_pos c105] at h
            refine lv_aload_n hx hb dX5_lot_108 rfl (lv_at hl 3 rfl) ?_
            refine x_get hc hG 0 rfl iX5 5 lX5_25 rfl dX5_lot_109 ?_
            refine lv_iload hx hb dX5_lot_112 (lv_at hl 1 rfl) ?_
            refine lv_iconst (v := 4) hx hb dX5_lot_114 (by decide) ?_
            refine lv_iadd hx hb dX5_lot_115 ?_
            refine lv_iconst (v := 1) hx hb dX5_lot_116 (by decide) ?_
            refine lv_aload_n hx hb dX5_lot_117 rfl (lv_at hl 3 rfl) ?_
            refine x_get hc hG 0 rfl iX5 5 lX5_25 rfl dX5_lot_118 ?_
            refine lv_iload hx hb dX5_lot_121 (lv_at hl 1 rfl) ?_
            refine lv_iconst (v := 4) hx hb dX5_lot_123 (by decide) ?_
            refine lv_iadd hx hb dX5_lot_124 ?_
            obtain ⟨v125, e125, h⟩ := bd1_some h
            refine x_ald hc hG 6 rfl e125 dX5_lot_125 ?_
            refine lv_isub hx hb dX5_lot_126 ?_
            obtain ⟨now_127, e127, h⟩ := bd1_some h
            refine x_ast (ws' := (wX5 cI ad deeds finding asked upper lower m_at wrong rowSize rows textSize texts spare now_127 draft tried past kept keptPast keptDeeds findings worth)) hc hG 6 rfl e127 rfl dX5_lot_127 (fun H locs hG => ?_)
            refine lv_goto (tgt := 157) hx hb dX5_lot_128 (by decide) ?_
            cases h
            exact hret _ _ _ _ hG dX5_lot_157
        · rw [if_pos c76] at h
          refine lv_aload_n hx hb dX5_lot_79 rfl (lv_at hl 3 rfl) ?_
          refine x_get hc hG 0 rfl iX5 5 lX5_25 rfl dX5_lot_80 ?_
          refine lv_iload hx hb dX5_lot_83 (lv_at hl 1 rfl) ?_
          refine lv_iconst (v := 3) hx hb dX5_lot_85 (by decide) ?_
          refine lv_iadd hx hb dX5_lot_86 ?_
          refine lv_iconst (v := 1) hx hb dX5_lot_87 (by decide) ?_
          refine lv_aload_n hx hb dX5_lot_88 rfl (lv_at hl 3 rfl) ?_
          refine x_get hc hG 0 rfl iX5 5 lX5_25 rfl dX5_lot_89 ?_
          refine lv_iload hx hb dX5_lot_92 (lv_at hl 1 rfl) ?_
          refine lv_iconst (v := 3) hx hb dX5_lot_94 (by decide) ?_
          refine lv_iadd hx hb dX5_lot_95 ?_
          obtain ⟨v96, e96, h⟩ := bd1_some h
          refine x_ald hc hG 6 rfl e96 dX5_lot_96 ?_
          refine lv_isub hx hb dX5_lot_97 ?_
          obtain ⟨now_98, e98, h⟩ := bd1_some h
          refine x_ast (ws' := (wX5 cI ad deeds finding asked upper lower m_at wrong rowSize rows textSize texts spare now_98 draft tried past kept keptPast keptDeeds findings worth)) hc hG 6 rfl e98 rfl dX5_lot_98 (fun H locs hG => ?_)
          refine lv_goto (tgt := 157) hx hb dX5_lot_99 (by decide) ?_
          cases h
          exact hret _ _ _ _ hG dX5_lot_157
      · rw [if_pos c57] at h
        refine lv_aload_n hx hb dX5_lot_60 rfl (lv_at hl 3 rfl) ?_
        refine x_get hc hG 0 rfl iX5 5 lX5_25 rfl dX5_lot_61 ?_
        refine lv_iload hx hb dX5_lot_64 (lv_at hl 1 rfl) ?_
        refine lv_iconst (v := 1) hx hb dX5_lot_66 (by decide) ?_
        refine lv_iadd hx hb dX5_lot_67 ?_
        refine lv_iload hx hb dX5_lot_68 (lv_at hl 0 rfl) ?_
        obtain ⟨now_70, e70, h⟩ := bd1_some h
        refine x_ast (ws' := (wX5 cI ad deeds finding asked upper lower m_at wrong rowSize rows textSize texts spare now_70 draft tried past kept keptPast keptDeeds findings worth)) hc hG 6 rfl e70 rfl dX5_lot_70 (fun H locs hG => ?_)
        refine lv_goto (tgt := 157) hx hb dX5_lot_71 (by decide) ?_
        cases h
        exact hret _ _ _ _ hG dX5_lot_157
    · rw [if_neg c41] at h
      refine lv_aload_n hx hb dX5_lot_44 rfl (lv_at hl 3 rfl) ?_
      refine x_get hc hG 0 rfl iX5 5 lX5_25 rfl dX5_lot_45 ?_
      obtain ⟨v48, now_48, e48, h⟩ := bd2_some h
      refine x_si (rest := []) (ws' := (wX5 cI ad deeds finding asked upper lower m_at wrong rowSize rows textSize texts spare now_48 draft tried past kept keptPast keptDeeds findings worth)) hc hG (cc_X5_passes (fun k => ad (6 + k)) 35 now v48 now_48 e48) [6] [0, 1, 2, 3, 4, 5, 7, 8, 9, 10, 11, 12, 13, 14] [0, 1, 2, 3, 4, 5, 14, 6, 7, 8, 9, 10, 11, 12, 13] rfl rfl rfl lX5_193 ⟨rfl, rfl, by decide, by decide⟩ rfl hl.1 (Nat.le_of_ble_eq_true rfl) rfl dX5_lot_48 (fun H locs hG => ?_)
      refine lv_pop hx hb dX5_lot_51 rfl ?_
      refine lv_goto (tgt := 157) hx hb dX5_lot_52 (by decide) ?_
      cases h
      exact hret _ _ _ _ hG dX5_lot_157
set_option maxRecDepth 100000 in
set_option maxHeartbeats 4000000 in
theorem cc_X5_lots {l : Launch} {D : va_G} {cI : ClassId} {tL : Nat} (ad : Nat → Nat) (deeds : Int32) (finding : Int32) (asked : Int32) (upper : Int64) (lower : Int64) (m_at : Int32) (wrong : Int32) (rowSize : Nat → Int32) (rows : Nat → Int32) (textSize : Nat → Int32) (texts : Nat → Int32) (spare : Nat → Int32) (now : Nat → Int32) (draft : Nat → Int32) (tried : Nat → Int32) (past : Nat → Int32) (kept : Nat → Int32) (keptPast : Nat → Int32) (keptDeeds : Nat → Int32) (findings : Nat → Int32) (worth : Nat → Int32) (x1 : Int32) (x2 : Int32) (r' : Int32) (deeds' : Int32) (now' : Nat → Int32) (past' : Nat → Int32) (h : fX5_lots deeds now past x1 x2 = some (r', deeds', now', past')) : Ci l D cI tL yX5_lots cX5_lots 6 .int rmX5_lots (wX5 cI ad deeds finding asked upper lower m_at wrong rowSize rows textSize texts spare now draft tried past kept keptPast keptDeeds findings worth) [.ref (ad 0), .int x1, .int x2] r' (wX5 cI ad deeds' finding asked upper lower m_at wrong rowSize rows textSize texts spare now' draft tried past' kept keptPast keptDeeds findings worth) := by
  refine Ci_of (own := RX5) (by decide) (Nat.le_of_ble_eq_true rfl) rfl ?_
  intro p e s m below meth c Q A AV hc hret ls hl hG
  obtain ⟨hx, hb, hml, hown, hts, hK, hA, hz⟩ := id hc
  have hl : lv_has ls 6 [(0, .ref (ad 0)), (1, .int x1), (2, .int x2)] := hl
  have hL_52 : ∀ (x1 : Int32) (deeds_o : Int32) (now_o : Nat → Int32) (past_o : Nat → Int32), (∀ (ls : Array Slot) (H : Heap) (locs : List Loc), lv_has ls 6 [(0, .ref (ad 0))] → St D A s (wX5 cI ad deeds_o finding asked upper lower m_at wrong rowSize rows textSize texts spare now_o draft tried past_o kept keptPast keptDeeds findings worth) H locs → W p l e rmX5_lots s m AV below meth c H locs 0 0 Q (F0 m 83 ls [])) → ∀ (n : Nat) (deeds : Int32) (now : Nat → Int32) (past : Nat → Int32) (x3 : Int64) (x5 : Int32), fX5_lots_L52 x1 n deeds now past x3 x5 = some (deeds_o, now_o, past_o) → ∀ (ls : Array Slot) (H : Heap) (locs : List Loc), lv_has ls 6 [(0, .ref (ad 0)), (1, .int x1), (3, .long x3), (5, .int x5)] → St D A s (wX5 cI ad deeds finding asked upper lower m_at wrong rowSize rows textSize texts spare now draft tried past kept keptPast keptDeeds findings worth) H locs → W p l e rmX5_lots s m AV below meth c H locs 0 0 Q (F0 m 52 ls []) := by
    intro x1 deeds_o now_o past_o KE n
    induction n with
    | zero =>
      intro deeds now past x3 x5 h
      exact nomatch (show none = some _ from h)
    | succ n ih =>
      intro deeds now past x3 x5 h ls H locs hl hG
      have h : fX5_lots_B52 x1 (fX5_lots_L52 x1 n) deeds now past x3 x5 = some (deeds_o, now_o, past_o) := h
      unfold fX5_lots_B52 at h
      refine lv_iload hx hb dX5_lots_52 (lv_at hl 3 rfl) ?_
      refine lv_iload_n hx hb dX5_lots_54 rfl (lv_at hl 1 rfl) ?_
      refine lv_icmp_ge (tgt := 83) hx hb dX5_lots_55 (by decide) (fun c55 => ?_) (fun c55 => ?_)
      · rw [if_pos c55] at h
        cases h
        exact KE _ _ _ (lv_sub hl [0] rfl) hG
      · rw [if_neg c55] at h
        refine lv_lload_n hx hb dX5_lots_58 rfl (lv_at hl 2 rfl) ?_
        refine lv_ldc2 (v := 48271) hx hb hown (hts _ kX5_250) dX5_lots_59 ?_
        refine lv_lmul hx hb dX5_lots_62 ?_
        refine lv_ldc2 (v := 2147483647) hx hb hown (hts _ kX5_252) dX5_lots_63 ?_
        refine lv_lrem hx hb dX5_lots_66 (by decide) ?_
        refine lv_lstore_n (lv' := [(3, .long ((x3 * 48271) - (x3 * 48271) / 2147483647 * 2147483647)), (0, .ref (ad 0)), (1, .int x1), (5, .int x5)]) hx hb dX5_lots_67 rfl hl (by decide) rfl (fun ls hl => ?_)
        refine lv_aload_n hx hb dX5_lots_68 rfl (lv_at hl 1 rfl) ?_
        obtain ⟨deeds_69, past_69, e69, h⟩ := bd2_some h
        refine x_vv (rest := []) (ws' := (wX5 cI ad deeds_69 finding asked upper lower m_at wrong rowSize rows textSize texts spare now draft tried past_69 kept keptPast keptDeeds findings worth)) hc hG (cc_X5_notes ad deeds finding asked upper lower m_at wrong rowSize rows textSize texts spare now draft tried past kept keptPast keptDeeds findings worth deeds_69 past_69 e69) [0, 1, 2, 3, 4, 5, 6, 7, 8, 9, 10, 11, 12, 13, 14] [] [0, 1, 2, 3, 4, 5, 6, 7, 8, 9, 10, 11, 12, 13, 14] rfl rfl rfl 0 rfl rfl lX5_190 ⟨rfl, rfl, by decide, by decide⟩ rfl hl.1 (Nat.le_of_ble_eq_true rfl) rfl dX5_lots_69 (fun H locs hG => ?_)
        refine lv_aload_n hx hb dX5_lots_72 rfl (lv_at hl 1 rfl) ?_
        refine lv_lload_n hx hb dX5_lots_73 rfl (lv_at hl 0 rfl) ?_
        obtain ⟨now_74, e74, h⟩ := bd1_some h
        refine x_vv (rest := []) (ws' := (wX5 cI ad deeds_69 finding asked upper lower m_at wrong rowSize rows textSize texts spare now_74 draft tried past_69 kept keptPast keptDeeds findings worth)) hc hG (cc_X5_lot ad deeds_69 finding asked upper lower m_at wrong rowSize rows textSize texts spare now draft tried past_69 kept keptPast keptDeeds findings worth ((x3 * 48271) - (x3 * 48271) / 2147483647 * 2147483647) now_74 e74) [0, 1, 2, 3, 4, 5, 6, 7, 8, 9, 10, 11, 12, 13, 14] [] [0, 1, 2, 3, 4, 5, 6, 7, 8, 9, 10, 11, 12, 13, 14] rfl rfl rfl 0 rfl rfl lX5_254 ⟨rfl, rfl, by decide, by decide⟩ rfl hl.1 (Nat.le_of_ble_eq_true rfl) rfl dX5_lots_74 (fun H locs hG => ?_)
        refine lv_iinc (v := (x5 + 1)) (lv' := [(5, .int (x5 + 1)), (3, .long ((x3 * 48271) - (x3 * 48271) / 2147483647 * 2147483647)), (0, .ref (ad 0)), (1, .int x1)]) hx hb dX5_lots_77 hl (k := 3) rfl rfl (by decide) rfl (fun ls hl => ?_)
        refine lv_goto (tgt := 52) hx hb dX5_lots_80 (by decide) ?_
        exact ih _ _ _ _ _ h _ _ _ (lv_sub hl [2, 3, 1, 0] rfl) hG
  unfold fX5_lots at h
  refine lv_iload_n hx hb dX5_lots_0 rfl (lv_at hl 1 rfl) ?_
  refine lv_iconst (v := 1) hx hb dX5_lots_1 (by decide) ?_
  refine lv_bipush (v := 20) hx hb dX5_lots_2 (by decide) ?_
  obtain ⟨v4, e4, h⟩ := bd1_some h
  refine x_si0 (rest := []) hc hG (cc_X5_in0 x1 1 20 v4 e4) lX5_63 ⟨rfl, rfl, by decide, by decide⟩ rfl hl.1 (Nat.le_of_ble_eq_true rfl) rfl dX5_lots_4 (fun H locs hG => ?_)
  refine lv_if_eq (tgt := 20) hx hb dX5_lots_7 (by decide) (fun c7 => ?_) (fun c7 => ?_)
  · rw [if_pos c7] at h
    refine lv_iconst (v := (-1)) hx hb dX5_lots_20 (by decide) ?_
    cases h
    exact hret _ _ _ _ hG dX5_lots_21 rfl
  · rw [if_neg c7] at h
    refine lv_iload_n hx hb dX5_lots_10 rfl (lv_at hl 2 rfl) ?_
    refine lv_iconst (v := 1) hx hb dX5_lots_11 (by decide) ?_
    refine lv_ldc (v := 2147483646) hx hb hown (hts _ kX5_249) dX5_lots_12 ?_
    obtain ⟨v14, e14, h⟩ := bd1_some h
    refine x_si0 (rest := []) hc hG (cc_X5_in0 x2 1 2147483646 v14 e14) lX5_63 ⟨rfl, rfl, by decide, by decide⟩ rfl hl.1 (Nat.le_of_ble_eq_true rfl) rfl dX5_lots_14 (fun H locs hG => ?_)
    refine lv_if_ne (tgt := 22) hx hb dX5_lots_17 (by decide) (fun c17 => ?_) (fun c17 => ?_)
    · rw [if_neg c17] at h
      refine lv_aload_n hx hb dX5_lots_22 rfl (lv_at hl 0 rfl) ?_
      obtain ⟨v23, e23, h⟩ := bd1_some h
      refine x_vi (rest := []) (ws' := (wX5 cI ad deeds finding asked upper lower m_at wrong rowSize rows textSize texts spare now draft tried past kept keptPast keptDeeds findings worth)) hc hG (cc_X5_isAny ad deeds finding asked upper lower m_at wrong rowSize rows textSize texts spare now draft tried past kept keptPast keptDeeds findings worth v23 e23) [0, 1, 2, 3, 4, 5, 6, 7, 8, 9, 10, 11, 12, 13, 14] [] [0, 1, 2, 3, 4, 5, 6, 7, 8, 9, 10, 11, 12, 13, 14] rfl rfl rfl 0 rfl rfl lX5_186 ⟨rfl, rfl, by decide, by decide⟩ rfl hl.1 (Nat.le_of_ble_eq_true rfl) rfl dX5_lots_23 (fun H locs hG => ?_)
      refine lv_if_ne (tgt := 32) hx hb dX5_lots_26 (by decide) (fun c26 => ?_) (fun c26 => ?_)
      · rw [if_neg c26] at h
        refine lv_aload_n hx hb dX5_lots_32 rfl (lv_at hl 0 rfl) ?_
        refine x_get hc hG 0 rfl iX5 9 lX5_124 rfl dX5_lots_33 ?_
        refine lv_iload_n hx hb dX5_lots_36 rfl (lv_at hl 1 rfl) ?_
        refine lv_iadd hx hb dX5_lots_37 ?_
        refine lv_bipush (v := 40) hx hb dX5_lots_38 (by decide) ?_
        refine lv_icmp_le (tgt := 46) hx hb dX5_lots_40 (by decide) (fun c40 => ?_) (fun c40 => ?_)
        · rw [if_pos c40] at h
          refine lv_iload_n hx hb dX5_lots_46 rfl (lv_at hl 2 rfl) ?_
          refine lv_i2l hx hb dX5_lots_47 rfl ?_
          refine lv_lstore_n (lv' := [(3, .long (Int32.toInt64 x2)), (0, .ref (ad 0)), (1, .int x1), (2, .int x2)]) hx hb dX5_lots_48 rfl hl (by decide) rfl (fun ls hl => ?_)
          refine lv_iconst (v := 0) hx hb dX5_lots_49 (by decide) ?_
          refine lv_istore (lv' := [(5, .int 0), (3, .long (Int32.toInt64 x2)), (0, .ref (ad 0)), (1, .int x1), (2, .int x2)]) hx hb dX5_lots_50 hl (by decide) rfl (fun ls hl => ?_)
          obtain ⟨deeds_L52, now_L52, past_L52, e52, h⟩ := bd3_some h
          refine hL_52 _ _ _ _ (fun ls H locs hl hG => ?_) _ _ _ _ _ _ e52 _ _ _ (lv_sub hl [2, 3, 1, 0] rfl) hG
          refine lv_aload_n hx hb dX5_lots_83 rfl (lv_at hl 0 rfl) ?_
          refine x_get hc hG 0 rfl iX5 5 lX5_25 rfl dX5_lots_84 ?_
          refine lv_iconst (v := 3) hx hb dX5_lots_87 (by decide) ?_
          obtain ⟨v88, e88, h⟩ := bd1_some h
          refine x_ald hc hG 6 rfl e88 dX5_lots_88 ?_
          cases h
          exact hret _ _ _ _ hG dX5_lots_89 rfl
        · rw [if_neg c40] at h
          refine lv_bipush (v := (-2)) hx hb dX5_lots_43 (by decide) ?_
          cases h
          exact hret _ _ _ _ hG dX5_lots_45 rfl
      · rw [if_pos c26] at h
        refine lv_bipush (v := (-4)) hx hb dX5_lots_29 (by decide) ?_
        cases h
        exact hret _ _ _ _ hG dX5_lots_31 rfl
    · rw [if_pos c17] at h
      refine lv_iconst (v := (-1)) hx hb dX5_lots_20 (by decide) ?_
      cases h
      exact hret _ _ _ _ hG dX5_lots_21 rfl
set_option maxRecDepth 100000 in
set_option maxHeartbeats 4000000 in
theorem cc_X5_asked {l : Launch} {D : va_G} {cI : ClassId} {tL : Nat} (ad : Nat → Nat) (deeds : Int32) (finding : Int32) (asked : Int32) (upper : Int64) (lower : Int64) (m_at : Int32) (wrong : Int32) (rowSize : Nat → Int32) (rows : Nat → Int32) (textSize : Nat → Int32) (texts : Nat → Int32) (spare : Nat → Int32) (now : Nat → Int32) (draft : Nat → Int32) (tried : Nat → Int32) (past : Nat → Int32) (kept : Nat → Int32) (keptPast : Nat → Int32) (keptDeeds : Nat → Int32) (findings : Nat → Int32) (worth : Nat → Int32) (r' : Int32) (h : fX5_asked asked = some r') : Ci l D cI tL yX5_asked cX5_asked 1 .int rmX5_asked (wX5 cI ad deeds finding asked upper lower m_at wrong rowSize rows textSize texts spare now draft tried past kept keptPast keptDeeds findings worth) [.ref (ad 0)] r' (wX5 cI ad deeds finding asked upper lower m_at wrong rowSize rows textSize texts spare now draft tried past kept keptPast keptDeeds findings worth) := by
  refine Ci_of (own := RX5) (by decide) (Nat.le_of_ble_eq_true rfl) rfl ?_
  intro p e s m below meth c Q A AV hc hret ls hl hG
  obtain ⟨hx, hb, hml, hown, hts, hK, hA, hz⟩ := id hc
  have hl : lv_has ls 1 [(0, .ref (ad 0))] := hl
  unfold fX5_asked at h
  refine lv_aload_n hx hb dX5_asked_0 rfl (lv_at hl 0 rfl) ?_
  refine x_get hc hG 0 rfl iX5 15 lX5_60 rfl dX5_asked_1 ?_
  cases h
  exact hret _ _ _ _ hG dX5_asked_4 rfl
set_option maxRecDepth 100000 in
set_option maxHeartbeats 4000000 in
theorem cc_X5_upper {l : Launch} {D : va_G} {cI : ClassId} {tL : Nat} (ad : Nat → Nat) (deeds : Int32) (finding : Int32) (asked : Int32) (upper : Int64) (lower : Int64) (m_at : Int32) (wrong : Int32) (rowSize : Nat → Int32) (rows : Nat → Int32) (textSize : Nat → Int32) (texts : Nat → Int32) (spare : Nat → Int32) (now : Nat → Int32) (draft : Nat → Int32) (tried : Nat → Int32) (past : Nat → Int32) (kept : Nat → Int32) (keptPast : Nat → Int32) (keptDeeds : Nat → Int32) (findings : Nat → Int32) (worth : Nat → Int32) (r' : Int64) (h : fX5_upper upper = some r') : Cl l D cI tL yX5_upper cX5_upper 1 rmX5_upper (wX5 cI ad deeds finding asked upper lower m_at wrong rowSize rows textSize texts spare now draft tried past kept keptPast keptDeeds findings worth) [.ref (ad 0)] r' (wX5 cI ad deeds finding asked upper lower m_at wrong rowSize rows textSize texts spare now draft tried past kept keptPast keptDeeds findings worth) := by
  refine Cl_of (own := RX5) (by decide) (Nat.le_of_ble_eq_true rfl) rfl ?_
  intro p e s m below meth c Q A AV hc hret ls hl hG
  obtain ⟨hx, hb, hml, hown, hts, hK, hA, hz⟩ := id hc
  have hl : lv_has ls 1 [(0, .ref (ad 0))] := hl
  unfold fX5_upper at h
  refine lv_aload_n hx hb dX5_upper_0 rfl (lv_at hl 0 rfl) ?_
  refine x_get hc hG 0 rfl iX5 16 lX5_215 rfl dX5_upper_1 ?_
  cases h
  exact hret _ _ _ _ hG dX5_upper_4
set_option maxRecDepth 100000 in
set_option maxHeartbeats 4000000 in
theorem cc_X5_lower {l : Launch} {D : va_G} {cI : ClassId} {tL : Nat} (ad : Nat → Nat) (deeds : Int32) (finding : Int32) (asked : Int32) (upper : Int64) (lower : Int64) (m_at : Int32) (wrong : Int32) (rowSize : Nat → Int32) (rows : Nat → Int32) (textSize : Nat → Int32) (texts : Nat → Int32) (spare : Nat → Int32) (now : Nat → Int32) (draft : Nat → Int32) (tried : Nat → Int32) (past : Nat → Int32) (kept : Nat → Int32) (keptPast : Nat → Int32) (keptDeeds : Nat → Int32) (findings : Nat → Int32) (worth : Nat → Int32) (r' : Int64) (h : fX5_lower lower = some r') : Cl l D cI tL yX5_lower cX5_lower 1 rmX5_lower (wX5 cI ad deeds finding asked upper lower m_at wrong rowSize rows textSize texts spare now draft tried past kept keptPast keptDeeds findings worth) [.ref (ad 0)] r' (wX5 cI ad deeds finding asked upper lower m_at wrong rowSize rows textSize texts spare now draft tried past kept keptPast keptDeeds findings worth) := by
  refine Cl_of (own := RX5) (by decide) (Nat.le_of_ble_eq_true rfl) rfl ?_
  intro p e s m below meth c Q A AV hc hret ls hl hG
  obtain ⟨hx, hb, hml, hown, hts, hK, hA, hz⟩ := id hc
  have hl : lv_has ls 1 [(0, .ref (ad 0))] := hl
  unfold fX5_lower at h
  refine lv_aload_n hx hb dX5_lower_0 rfl (lv_at hl 0 rfl) ?_
  refine x_get hc hG 0 rfl iX5 17 lX5_49 rfl dX5_lower_1 ?_
  cases h
  exact hret _ _ _ _ hG dX5_lower_4
set_option maxRecDepth 100000 in
set_option maxHeartbeats 4000000 in
theorem cc_X5_kindsThere {l : Launch} {D : va_G} {cI : ClassId} {tL : Nat} (ad : Nat → Nat) (deeds : Int32) (finding : Int32) (asked : Int32) (upper : Int64) (lower : Int64) (m_at : Int32) (wrong : Int32) (rowSize : Nat → Int32) (rows : Nat → Int32) (textSize : Nat → Int32) (texts : Nat → Int32) (spare : Nat → Int32) (now : Nat → Int32) (draft : Nat → Int32) (tried : Nat → Int32) (past : Nat → Int32) (kept : Nat → Int32) (keptPast : Nat → Int32) (keptDeeds : Nat → Int32) (findings : Nat → Int32) (worth : Nat → Int32) (x1 : Int32) (r' : Int32) (h : fX5_kindsThere now x1 = some r') : Ci l D cI tL yX5_kindsThere cX5_kindsThere 4 .int rmX5_kindsThere (wX5 cI ad deeds finding asked upper lower m_at wrong rowSize rows textSize texts spare now draft tried past kept keptPast keptDeeds findings worth) [.ref (ad 0), .int x1] r' (wX5 cI ad deeds finding asked upper lower m_at wrong rowSize rows textSize texts spare now draft tried past kept keptPast keptDeeds findings worth) := by
  refine Ci_of (own := RX5) (by decide) (Nat.le_of_ble_eq_true rfl) rfl ?_
  intro p e s m below meth c Q A AV hc hret ls hl hG
  obtain ⟨hx, hb, hml, hown, hts, hK, hA, hz⟩ := id hc
  have hl : lv_has ls 4 [(0, .ref (ad 0)), (1, .int x1)] := hl
  have hL_4 : ∀ (x1 : Int32) (x2_o : Int32), (∀ (ls : Array Slot) (H : Heap) (locs : List Loc), lv_has ls 4 [(0, .ref (ad 0)), (2, .int x2_o)] → St D A s (wX5 cI ad deeds finding asked upper lower m_at wrong rowSize rows textSize texts spare now draft tried past kept keptPast keptDeeds findings worth) H locs → W p l e rmX5_kindsThere s m AV below meth c H locs 0 0 Q (F0 m 45 ls [])) → ∀ (n : Nat) (x2 : Int32) (x3 : Int32), fX5_kindsThere_L4 now x1 n x2 x3 = some x2_o → ∀ (ls : Array Slot) (H : Heap) (locs : List Loc), lv_has ls 4 [(0, .ref (ad 0)), (1, .int x1), (2, .int x2), (3, .int x3)] → St D A s (wX5 cI ad deeds finding asked upper lower m_at wrong rowSize rows textSize texts spare now draft tried past kept keptPast keptDeeds findings worth) H locs → W p l e rmX5_kindsThere s m AV below meth c H locs 0 0 Q (F0 m 4 ls []) := by
    intro x1 x2_o KE n
    induction n with
    | zero =>
      intro x2 x3 h
      exact nomatch (show none = some _ from h)
    | succ n ih =>
      intro x2 x3 h ls H locs hl hG
      have h : fX5_kindsThere_B4 now x1 (fX5_kindsThere_L4 now x1 n) x2 x3 = some x2_o := h
      have hj_37 : ∀ (x3 : Int32) (k0 : Int32) (k1 : Int32) , fX5_kindsThere_j37 (fX5_kindsThere_L4 now x1 n) now x1 x3 k0 k1 = some x2_o → ∀ (ls : Array Slot) (H : Heap) (locs : List Loc), lv_has ls 4 [(0, .ref (ad 0)), (1, .int x1), (3, .int x3)] → St D A s (wX5 cI ad deeds finding asked upper lower m_at wrong rowSize rows textSize texts spare now draft tried past kept keptPast keptDeeds findings worth) H locs → W p l e rmX5_kindsThere s m AV below meth c H locs 0 0 Q (F0 m 37 ls [.int k1, .int k0]) := by
        intro x3 k0 k1 h ls H locs hl hG
        unfold fX5_kindsThere_j37 at h
        refine lv_iadd hx hb dX5_kindsThere_37 ?_
        refine lv_istore_n (lv' := [(2, .int (k0 + k1)), (0, .ref (ad 0)), (1, .int x1), (3, .int x3)]) hx hb dX5_kindsThere_38 rfl hl (by decide) rfl (fun ls hl => ?_)
        refine lv_iinc (v := (x3 + 1)) (lv' := [(3, .int (x3 + 1)), (2, .int (k0 + k1)), (0, .ref (ad 0)), (1, .int x1)]) hx hb dX5_kindsThere_39 hl (k := 3) rfl rfl (by decide) rfl (fun ls hl => ?_)
        refine lv_goto (tgt := 4) hx hb dX5_kindsThere_42 (by decide) ?_
        exact ih _ _ h _ _ _ (lv_sub hl [2, 3, 1, 0] rfl) hG
      unfold fX5_kindsThere_B4 at h
      refine lv_iload_n hx hb dX5_kindsThere_4 rfl (lv_at hl 3 rfl) ?_
      refine lv_aload_n hx hb dX5_kindsThere_5 rfl (lv_at hl 0 rfl) ?_
      refine x_get hc hG 0 rfl iX5 5 lX5_25 rfl dX5_kindsThere_6 ?_
      refine lv_iconst (v := 1) hx hb dX5_kindsThere_9 (by decide) ?_
      obtain ⟨v10, e10, h⟩ := bd1_some h
      refine x_ald hc hG 6 rfl e10 dX5_kindsThere_10 ?_
      refine lv_icmp_ge (tgt := 45) hx hb dX5_kindsThere_11 (by decide) (fun c11 => ?_) (fun c11 => ?_)
      · rw [if_pos c11] at h
        cases h
        exact KE _ _ _ (lv_sub hl [0, 2] rfl) hG
      · rw [if_neg c11] at h
        refine lv_iload_n hx hb dX5_kindsThere_14 rfl (lv_at hl 2 rfl) ?_
        refine lv_aload_n hx hb dX5_kindsThere_15 rfl (lv_at hl 0 rfl) ?_
        refine x_get hc hG 0 rfl iX5 5 lX5_25 rfl dX5_kindsThere_16 ?_
        refine lv_iconst (v := 5) hx hb dX5_kindsThere_19 (by decide) ?_
        refine lv_iconst (v := 5) hx hb dX5_kindsThere_20 (by decide) ?_
        refine lv_iload_n hx hb dX5_kindsThere_21 rfl (lv_at hl 3 rfl) ?_
        refine lv_imul hx hb dX5_kindsThere_22 ?_
        refine lv_iadd hx hb dX5_kindsThere_23 ?_
        obtain ⟨v24, e24, h⟩ := bd1_some h
        refine x_ald hc hG 6 rfl e24 dX5_kindsThere_24 ?_
        refine lv_iload_n hx hb dX5_kindsThere_25 rfl (lv_at hl 1 rfl) ?_
        obtain ⟨v26, e26, h⟩ := bd1_some h
        refine x_si0 (rest := [.int x2]) hc hG (cc_X5_isOf v24 x1 v26 e26) lX5_177 ⟨rfl, rfl, by decide, by decide⟩ rfl hl.1 (Nat.le_of_ble_eq_true rfl) rfl dX5_kindsThere_26 (fun H locs hG => ?_)
        refine lv_if_eq (tgt := 36) hx hb dX5_kindsThere_29 (by decide) (fun c29 => ?_) (fun c29 => ?_)
        · rw [if_pos c29] at h
          refine lv_iconst (v := 0) hx hb dX5_kindsThere_36 (by decide) ?_
          exact hj_37 _ _ _ h _ _ _ (lv_sub hl [0, 1, 3] rfl) hG
        · rw [if_neg c29] at h
          refine lv_iconst (v := 1) hx hb dX5_kindsThere_32 (by decide) ?_
          refine lv_goto (tgt := 37) hx hb dX5_kindsThere_33 (by decide) ?_
          exact hj_37 _ _ _ h _ _ _ (lv_sub hl [0, 1, 3] rfl) hG
  unfold fX5_kindsThere at h
  refine lv_iconst (v := 0) hx hb dX5_kindsThere_0 (by decide) ?_
  refine lv_istore_n (lv' := [(2, .int 0), (0, .ref (ad 0)), (1, .int x1)]) hx hb dX5_kindsThere_1 rfl hl (by decide) rfl (fun ls hl => ?_)
  refine lv_iconst (v := 0) hx hb dX5_kindsThere_2 (by decide) ?_
  refine lv_istore_n (lv' := [(3, .int 0), (2, .int 0), (0, .ref (ad 0)), (1, .int x1)]) hx hb dX5_kindsThere_3 rfl hl (by decide) rfl (fun ls hl => ?_)
  obtain ⟨x2_L4, e4, h⟩ := bd1_some h
  refine hL_4 _ _ (fun ls H locs hl hG => ?_) _ _ _ e4 _ _ _ (lv_sub hl [2, 3, 1, 0] rfl) hG
  refine lv_iload_n hx hb dX5_kindsThere_45 rfl (lv_at hl 1 rfl) ?_
  cases h
  exact hret _ _ _ _ hG dX5_kindsThere_46 rfl
set_option maxRecDepth 100000 in
set_option maxHeartbeats 4000000 in
theorem cc_X5_there {l : Launch} {D : va_G} {cI : ClassId} {tL : Nat} (ad : Nat → Nat) (n0 : Nat) (a0 : Nat → Int32) (r' : Int32) (h : fX5_there n0 a0 = some r') : Ci l D cI tL yX5_there cX5_there 3 .int rmX5_there (wA1 cI ad n0 a0) [.ref (ad 0)] r' (wA1 cI ad n0 a0) := by
  refine Ci_of (own := RX5) (by decide) (Nat.le_of_ble_eq_true rfl) rfl ?_
  intro p e s m below meth c Q A AV hc hret ls hl hG
  obtain ⟨hx, hb, hml, hown, hts, hK, hA, hz⟩ := id hc
  have hl : lv_has ls 3 [(0, .ref (ad 0))] := hl
  have hL_4 : ∀  (x1_o : Int32), (∀ (ls : Array Slot) (H : Heap) (locs : List Loc), lv_has ls 3 [(0, .ref (ad 0)), (1, .int x1_o)] → St D A s (wA1 cI ad n0 a0) H locs → W p l e rmX5_there s m AV below meth c H locs 0 0 Q (F0 m 32 ls [])) → ∀ (n : Nat) (x1 : Int32) (x2 : Int32), fX5_there_L4 n0 a0 n x1 x2 = some x1_o → ∀ (ls : Array Slot) (H : Heap) (locs : List Loc), lv_has ls 3 [(0, .ref (ad 0)), (1, .int x1), (2, .int x2)] → St D A s (wA1 cI ad n0 a0) H locs → W p l e rmX5_there s m AV below meth c H locs 0 0 Q (F0 m 4 ls []) := by
    intro x1_o KE n
    induction n with
    | zero =>
      intro x1 x2 h
      exact nomatch (show none = some _ from h)
    | succ n ih =>
      intro x1 x2 h ls H locs hl hG
      have h : fX5_there_B4 n0 a0 (fX5_there_L4 n0 a0 n) x1 x2 = some x1_o := h
      have hj_24 : ∀ (x2 : Int32) (k0 : Int32) (k1 : Int32) , fX5_there_j24 (fX5_there_L4 n0 a0 n) n0 a0 x2 k0 k1 = some x1_o → ∀ (ls : Array Slot) (H : Heap) (locs : List Loc), lv_has ls 3 [(0, .ref (ad 0)), (2, .int x2)] → St D A s (wA1 cI ad n0 a0) H locs → W p l e rmX5_there s m AV below meth c H locs 0 0 Q (F0 m 24 ls [.int k1, .int k0]) := by
        intro x2 k0 k1 h ls H locs hl hG
        unfold fX5_there_j24 at h
        refine lv_iadd hx hb dX5_there_24 ?_
        refine lv_istore_n (lv' := [(1, .int (k0 + k1)), (0, .ref (ad 0)), (2, .int x2)]) hx hb dX5_there_25 rfl hl (by decide) rfl (fun ls hl => ?_)
        refine lv_iinc (v := (x2 + 1)) (lv' := [(2, .int (x2 + 1)), (1, .int (k0 + k1)), (0, .ref (ad 0))]) hx hb dX5_there_26 hl (k := 2) rfl rfl (by decide) rfl (fun ls hl => ?_)
        refine lv_goto (tgt := 4) hx hb dX5_there_29 (by decide) ?_
        exact ih _ _ h _ _ _ (lv_sub hl [2, 1, 0] rfl) hG
      unfold fX5_there_B4 at h
      refine lv_iload_n hx hb dX5_there_4 rfl (lv_at hl 2 rfl) ?_
      refine lv_aload_n hx hb dX5_there_5 rfl (lv_at hl 0 rfl) ?_
      refine x_alen hc hG 0 rfl dX5_there_6 ?_
      refine lv_icmp_ge (tgt := 32) hx hb dX5_there_7 (by decide) (fun c7 => ?_) (fun c7 => ?_)
      · rw [if_pos c7] at h
        cases h
        exact KE _ _ _ (lv_sub hl [0, 1] rfl) hG
      · rw [if_neg c7] at h
        refine lv_iload_n hx hb dX5_there_10 rfl (lv_at hl 1 rfl) ?_
        refine lv_aload_n hx hb dX5_there_11 rfl (lv_at hl 0 rfl) ?_
        refine lv_iload_n hx hb dX5_there_12 rfl (lv_at hl 2 rfl) ?_
        obtain ⟨v13, e13, h⟩ := bd1_some h
        refine x_ald hc hG 0 rfl e13 dX5_there_13 ?_
        refine lv_bipush (v := (-9)) hx hb dX5_there_14 (by decide) ?_
        refine lv_icmp_ne (tgt := 23) hx hb dX5_there_16 (by decide) (fun c16 => ?_) (fun c16 => ?_)
        · rw [if_neg c16] at h
          refine lv_iconst (v := 1) hx hb dX5_there_23 (by decide) ?_
          exact hj_24 _ _ _ h _ _ _ (lv_sub hl [0, 2] rfl) hG
        · rw [if_pos c16] at h
          refine lv_iconst (v := 0) hx hb dX5_there_19 (by decide) ?_
          refine lv_goto (tgt := 24) hx hb dX5_there_20 (by decide) ?_
          exact hj_24 _ _ _ h _ _ _ (lv_sub hl [0, 2] rfl) hG
  unfold fX5_there at h
  refine lv_iconst (v := 0) hx hb dX5_there_0 (by decide) ?_
  refine lv_istore_n (lv' := [(1, .int 0), (0, .ref (ad 0))]) hx hb dX5_there_1 rfl hl (by decide) rfl (fun ls hl => ?_)
  refine lv_iconst (v := 0) hx hb dX5_there_2 (by decide) ?_
  refine lv_istore_n (lv' := [(2, .int 0), (1, .int 0), (0, .ref (ad 0))]) hx hb dX5_there_3 rfl hl (by decide) rfl (fun ls hl => ?_)
  obtain ⟨x1_L4, e4, h⟩ := bd1_some h
  refine hL_4 _ (fun ls H locs hl hG => ?_) _ _ _ e4 _ _ _ (lv_sub hl [2, 1, 0] rfl) hG
  refine lv_iload_n hx hb dX5_there_32 rfl (lv_at hl 1 rfl) ?_
  cases h
  exact hret _ _ _ _ hG dX5_there_33 rfl
set_option maxRecDepth 100000 in
set_option maxHeartbeats 4000000 in
theorem cc_X5_count {l : Launch} {D : va_G} {cI : ClassId} {tL : Nat} (ad : Nat → Nat) (deeds : Int32) (finding : Int32) (asked : Int32) (upper : Int64) (lower : Int64) (m_at : Int32) (wrong : Int32) (rowSize : Nat → Int32) (rows : Nat → Int32) (textSize : Nat → Int32) (texts : Nat → Int32) (spare : Nat → Int32) (now : Nat → Int32) (draft : Nat → Int32) (tried : Nat → Int32) (past : Nat → Int32) (kept : Nat → Int32) (keptPast : Nat → Int32) (keptDeeds : Nat → Int32) (findings : Nat → Int32) (worth : Nat → Int32) (x1 : Int32) (r' : Int32) (h : fX5_count deeds rowSize textSize now keptDeeds x1 = some r') : Ci l D cI tL yX5_count cX5_count 2 .int rmX5_count (wX5 cI ad deeds finding asked upper lower m_at wrong rowSize rows textSize texts spare now draft tried past kept keptPast keptDeeds findings worth) [.ref (ad 0), .int x1] r' (wX5 cI ad deeds finding asked upper lower m_at wrong rowSize rows textSize texts spare now draft tried past kept keptPast keptDeeds findings worth) := by
  refine Ci_of (own := RX5) (by decide) (Nat.le_of_ble_eq_true rfl) rfl ?_
  intro p e s m below meth c Q A AV hc hret ls hl hG
  obtain ⟨hx, hb, hml, hown, hts, hK, hA, hz⟩ := id hc
  have hl : lv_has ls 2 [(0, .ref (ad 0)), (1, .int x1)] := hl
  unfold fX5_count at h
  refine lv_iload_n hx hb dX5_count_0 rfl (lv_at hl 1 rfl) ?_
  by_cases c1_0 : x1 = 0
  · rw [if_pos c1_0] at h
    refine x_swK (tgt := 72) hx hb dX5_count_1 c1_0 (by decide) (by decide) rfl (by decide) ?_
    refine lv_aload_n hx hb dX5_count_72 rfl (lv_at hl 0 rfl) ?_
    refine x_get hc hG 0 rfl iX5 5 lX5_25 rfl dX5_count_73 ?_
    refine lv_iconst (v := 1) hx hb dX5_count_76 (by decide) ?_
    obtain ⟨v77, e77, h⟩ := bd1_some h
    refine x_ald hc hG 6 rfl e77 dX5_count_77 ?_
    cases h
    exact hret _ _ _ _ hG dX5_count_78 rfl
  rw [if_neg c1_0] at h
  by_cases c1_1 : x1 = 1
  · rw [if_pos c1_1] at h
    refine x_swK (tgt := 79) hx hb dX5_count_1 c1_1 (by decide) (by decide) rfl (by decide) ?_
    refine lv_aload_n hx hb dX5_count_79 rfl (lv_at hl 0 rfl) ?_
    refine x_get hc hG 0 rfl iX5 5 lX5_25 rfl dX5_count_80 ?_
    refine lv_iconst (v := 0) hx hb dX5_count_83 (by decide) ?_
    obtain ⟨v84, e84, h⟩ := bd1_some h
    refine x_ald hc hG 6 rfl e84 dX5_count_84 ?_
    cases h
    exact hret _ _ _ _ hG dX5_count_85 rfl
  rw [if_neg c1_1] at h
  by_cases c1_2 : x1 = 2
  · rw [if_pos c1_2] at h
    refine x_swK (tgt := 86) hx hb dX5_count_1 c1_2 (by decide) (by decide) rfl (by decide) ?_
    refine lv_aload_n hx hb dX5_count_86 rfl (lv_at hl 0 rfl) ?_
    refine x_get hc hG 0 rfl iX5 5 lX5_25 rfl dX5_count_87 ?_
    refine lv_iconst (v := 2) hx hb dX5_count_90 (by decide) ?_
    obtain ⟨v91, e91, h⟩ := bd1_some h
    refine x_ald hc hG 6 rfl e91 dX5_count_91 ?_
    cases h
    exact hret _ _ _ _ hG dX5_count_92 rfl
  rw [if_neg c1_2] at h
  by_cases c1_3 : x1 = 3
  · rw [if_pos c1_3] at h
    refine x_swK (tgt := 93) hx hb dX5_count_1 c1_3 (by decide) (by decide) rfl (by decide) ?_
    refine lv_aload_n hx hb dX5_count_93 rfl (lv_at hl 0 rfl) ?_
    refine x_get hc hG 0 rfl iX5 9 lX5_124 rfl dX5_count_94 ?_
    cases h
    exact hret _ _ _ _ hG dX5_count_97 rfl
  rw [if_neg c1_3] at h
  by_cases c1_4 : x1 = 4
  · rw [if_pos c1_4] at h
    refine x_swK (tgt := 98) hx hb dX5_count_1 c1_4 (by decide) (by decide) rfl (by decide) ?_
    refine lv_aload_n hx hb dX5_count_98 rfl (lv_at hl 0 rfl) ?_
    refine x_get hc hG 0 rfl iX5 5 lX5_25 rfl dX5_count_99 ?_
    refine lv_iconst (v := 3) hx hb dX5_count_102 (by decide) ?_
    obtain ⟨v103, e103, h⟩ := bd1_some h
    refine x_ald hc hG 6 rfl e103 dX5_count_103 ?_
    cases h
    exact hret _ _ _ _ hG dX5_count_104 rfl
  rw [if_neg c1_4] at h
  by_cases c1_5 : x1 = 5
  · rw [if_pos c1_5] at h
    refine x_swK (tgt := 105) hx hb dX5_count_1 c1_5 (by decide) (by decide) rfl (by decide) ?_
    refine lv_aload_n hx hb dX5_count_105 rfl (lv_at hl 0 rfl) ?_
    refine x_get hc hG 0 rfl iX5 5 lX5_25 rfl dX5_count_106 ?_
    obtain ⟨v109, e109, h⟩ := bd1_some h
    refine x_si (rest := []) (ws' := (wX5 cI ad deeds finding asked upper lower m_at wrong rowSize rows textSize texts spare now draft tried past kept keptPast keptDeeds findings worth)) hc hG (cc_X5_lifted (fun k => ad (6 + k)) 35 now v109 e109) [6] [0, 1, 2, 3, 4, 5, 7, 8, 9, 10, 11, 12, 13, 14] [0, 1, 2, 3, 4, 5, 14, 6, 7, 8, 9, 10, 11, 12, 13] rfl rfl rfl lX5_233 ⟨rfl, rfl, by decide, by decide⟩ rfl hl.1 (Nat.le_of_ble_eq_true rfl) rfl dX5_count_109 (fun H locs hG => ?_)
    cases h
    exact hret _ _ _ _ hG dX5_count_112 rfl
  rw [if_neg c1_5] at h
  by_cases c1_6 : x1 = 6
  · rw [if_pos c1_6] at h
    refine x_swK (tgt := 113) hx hb dX5_count_1 c1_6 (by decide) (by decide) rfl (by decide) ?_
    refine lv_aload_n hx hb dX5_count_113 rfl (lv_at hl 0 rfl) ?_
    refine x_get hc hG 0 rfl iX5 5 lX5_25 rfl dX5_count_114 ?_
    refine lv_iconst (v := 4) hx hb dX5_count_117 (by decide) ?_
    obtain ⟨v118, e118, h⟩ := bd1_some h
    refine x_ald hc hG 6 rfl e118 dX5_count_118 ?_
    cases h
    exact hret _ _ _ _ hG dX5_count_119 rfl
  rw [if_neg c1_6] at h
  by_cases c1_7 : x1 = 7
  · rw [if_pos c1_7] at h
    refine x_swK (tgt := 120) hx hb dX5_count_1 c1_7 (by decide) (by decide) rfl (by decide) ?_
    refine lv_aload_n hx hb dX5_count_120 rfl (lv_at hl 0 rfl) ?_
    obtain ⟨v121, e121, h⟩ := bd1_some h
    refine x_vi (rest := []) (ws' := (wX5 cI ad deeds finding asked upper lower m_at wrong rowSize rows textSize texts spare now draft tried past kept keptPast keptDeeds findings worth)) hc hG (cc_X5_isAny ad deeds finding asked upper lower m_at wrong rowSize rows textSize texts spare now draft tried past kept keptPast keptDeeds findings worth v121 e121) [0, 1, 2, 3, 4, 5, 6, 7, 8, 9, 10, 11, 12, 13, 14] [] [0, 1, 2, 3, 4, 5, 6, 7, 8, 9, 10, 11, 12, 13, 14] rfl rfl rfl 0 rfl rfl lX5_186 ⟨rfl, rfl, by decide, by decide⟩ rfl hl.1 (Nat.le_of_ble_eq_true rfl) rfl dX5_count_121 (fun H locs hG => ?_)
    refine lv_if_eq (tgt := 137) hx hb dX5_count_124 (by decide) (fun c124 => ?_) (fun c124 => ?_)
    · rw [if_pos c124] at h
      refine lv_iconst (v := 0) hx hb dX5_count_137 (by decide) ?_
      cases h
      exact hret _ _ _ _ hG dX5_count_138 rfl
    · rw [if_neg c124] at h
      refine lv_aload_n hx hb dX5_count_127 rfl (lv_at hl 0 rfl) ?_
      refine x_get hc hG 0 rfl iX5 5 lX5_25 rfl dX5_count_128 ?_
      obtain ⟨v131, e131, h⟩ := bd1_some h
      refine x_si (rest := []) (ws' := (wX5 cI ad deeds finding asked upper lower m_at wrong rowSize rows textSize texts spare now draft tried past kept keptPast keptDeeds findings worth)) hc hG (cc_X5_linesIn (fun k => ad (6 + k)) 35 now v131 e131) [6] [0, 1, 2, 3, 4, 5, 7, 8, 9, 10, 11, 12, 13, 14] [0, 1, 2, 3, 4, 5, 14, 6, 7, 8, 9, 10, 11, 12, 13] rfl rfl rfl lX5_163 ⟨rfl, rfl, by decide, by decide⟩ rfl hl.1 (Nat.le_of_ble_eq_true rfl) rfl dX5_count_131 (fun H locs hG => ?_)
      refine lv_goto (tgt := 138) hx hb dX5_count_134 (by decide) ?_
      cases h
      exact hret _ _ _ _ hG dX5_count_138 rfl
  rw [if_neg c1_7] at h
  by_cases c1_8 : x1 = 8
  · rw [if_pos c1_8] at h
    refine x_swK (tgt := 139) hx hb dX5_count_1 c1_8 (by decide) (by decide) rfl (by decide) ?_
    refine lv_aload_n hx hb dX5_count_139 rfl (lv_at hl 0 rfl) ?_
    refine x_get hc hG 0 rfl iX5 5 lX5_25 rfl dX5_count_140 ?_
    refine lv_iconst (v := 0) hx hb dX5_count_143 (by decide) ?_
    obtain ⟨v144, e144, h⟩ := bd1_some h
    refine x_si (rest := []) (ws' := (wX5 cI ad deeds finding asked upper lower m_at wrong rowSize rows textSize texts spare now draft tried past kept keptPast keptDeeds findings worth)) hc hG (cc_X5_coveredBut (fun k => ad (6 + k)) 35 now 0 v144 e144) [6] [0, 1, 2, 3, 4, 5, 7, 8, 9, 10, 11, 12, 13, 14] [0, 1, 2, 3, 4, 5, 14, 6, 7, 8, 9, 10, 11, 12, 13] rfl rfl rfl lX5_154 ⟨rfl, rfl, by decide, by decide⟩ rfl hl.1 (Nat.le_of_ble_eq_true rfl) rfl dX5_count_144 (fun H locs hG => ?_)
    obtain ⟨v147, e147, h⟩ := bd1_some h
    refine x_si0 (rest := []) hc hG (cc_X5_ones v144 v147 e147) lX5_151 ⟨rfl, rfl, by decide, by decide⟩ rfl hl.1 (Nat.le_of_ble_eq_true rfl) rfl dX5_count_147 (fun H locs hG => ?_)
    cases h
    exact hret _ _ _ _ hG dX5_count_150 rfl
  rw [if_neg c1_8] at h
  by_cases c1_9 : x1 = 9
  · rw [if_pos c1_9] at h
    refine x_swK (tgt := 151) hx hb dX5_count_1 c1_9 (by decide) (by decide) rfl (by decide) ?_
    refine lv_aload_n hx hb dX5_count_151 rfl (lv_at hl 0 rfl) ?_
    refine lv_iconst (v := 1) hx hb dX5_count_152 (by decide) ?_
    obtain ⟨v153, e153, h⟩ := bd1_some h
    refine x_vi (rest := []) (ws' := (wX5 cI ad deeds finding asked upper lower m_at wrong rowSize rows textSize texts spare now draft tried past kept keptPast keptDeeds findings worth)) hc hG (cc_X5_kindsThere ad deeds finding asked upper lower m_at wrong rowSize rows textSize texts spare now draft tried past kept keptPast keptDeeds findings worth 1 v153 e153) [0, 1, 2, 3, 4, 5, 6, 7, 8, 9, 10, 11, 12, 13, 14] [] [0, 1, 2, 3, 4, 5, 6, 7, 8, 9, 10, 11, 12, 13, 14] rfl rfl rfl 0 rfl rfl lX5_258 ⟨rfl, rfl, by decide, by decide⟩ rfl hl.1 (Nat.le_of_ble_eq_true rfl) rfl dX5_count_153 (fun H locs hG => ?_)
    cases h
    exact hret _ _ _ _ hG dX5_count_156 rfl
  rw [if_neg c1_9] at h
  by_cases c1_10 : x1 = 10
  · rw [if_pos c1_10] at h
    refine x_swK (tgt := 157) hx hb dX5_count_1 c1_10 (by decide) (by decide) rfl (by decide) ?_
    refine lv_aload_n hx hb dX5_count_157 rfl (lv_at hl 0 rfl) ?_
    refine lv_iconst (v := 2) hx hb dX5_count_158 (by decide) ?_
    obtain ⟨v159, e159, h⟩ := bd1_some h
    refine x_vi (rest := []) (ws' := (wX5 cI ad deeds finding asked upper lower m_at wrong rowSize rows textSize texts spare now draft tried past kept keptPast keptDeeds findings worth)) hc hG (cc_X5_kindsThere ad deeds finding asked upper lower m_at wrong rowSize rows textSize texts spare now draft tried past kept keptPast keptDeeds findings worth 2 v159 e159) [0, 1, 2, 3, 4, 5, 6, 7, 8, 9, 10, 11, 12, 13, 14] [] [0, 1, 2, 3, 4, 5, 6, 7, 8, 9, 10, 11, 12, 13, 14] rfl rfl rfl 0 rfl rfl lX5_258 ⟨rfl, rfl, by decide, by decide⟩ rfl hl.1 (Nat.le_of_ble_eq_true rfl) rfl dX5_count_159 (fun H locs hG => ?_)
    cases h
    exact hret _ _ _ _ hG dX5_count_162 rfl
  rw [if_neg c1_10] at h
  by_cases c1_11 : x1 = 11
  · rw [if_pos c1_11] at h
    refine x_swK (tgt := 163) hx hb dX5_count_1 c1_11 (by decide) (by decide) rfl (by decide) ?_
    refine lv_aload_n hx hb dX5_count_163 rfl (lv_at hl 0 rfl) ?_
    refine x_get hc hG 0 rfl iX5 0 lX5_7 rfl dX5_count_164 ?_
    obtain ⟨v167, e167, h⟩ := bd1_some h
    refine x_si (rest := []) (ws' := (wX5 cI ad deeds finding asked upper lower m_at wrong rowSize rows textSize texts spare now draft tried past kept keptPast keptDeeds findings worth)) hc hG (cc_X5_there (fun k => ad (1 + k)) 6 rowSize v167 e167) [1] [0, 2, 3, 4, 5, 6, 7, 8, 9, 10, 11, 12, 13, 14] [0, 14, 1, 2, 3, 4, 5, 6, 7, 8, 9, 10, 11, 12, 13] rfl rfl rfl lX5_261 ⟨rfl, rfl, by decide, by decide⟩ rfl hl.1 (Nat.le_of_ble_eq_true rfl) rfl dX5_count_167 (fun H locs hG => ?_)
    cases h
    exact hret _ _ _ _ hG dX5_count_170 rfl
  rw [if_neg c1_11] at h
  by_cases c1_12 : x1 = 12
  · rw [if_pos c1_12] at h
    refine x_swK (tgt := 171) hx hb dX5_count_1 c1_12 (by decide) (by decide) rfl (by decide) ?_
    refine lv_aload_n hx hb dX5_count_171 rfl (lv_at hl 0 rfl) ?_
    refine x_get hc hG 0 rfl iX5 2 lX5_16 rfl dX5_count_172 ?_
    obtain ⟨v175, e175, h⟩ := bd1_some h
    refine x_si (rest := []) (ws' := (wX5 cI ad deeds finding asked upper lower m_at wrong rowSize rows textSize texts spare now draft tried past kept keptPast keptDeeds findings worth)) hc hG (cc_X5_there (fun k => ad (3 + k)) 4 textSize v175 e175) [3] [0, 1, 2, 4, 5, 6, 7, 8, 9, 10, 11, 12, 13, 14] [0, 1, 2, 14, 3, 4, 5, 6, 7, 8, 9, 10, 11, 12, 13] rfl rfl rfl lX5_261 ⟨rfl, rfl, by decide, by decide⟩ rfl hl.1 (Nat.le_of_ble_eq_true rfl) rfl dX5_count_175 (fun H locs hG => ?_)
    cases h
    exact hret _ _ _ _ hG dX5_count_178 rfl
  rw [if_neg c1_12] at h
  by_cases c1_13 : x1 = 13
  · rw [if_pos c1_13] at h
    refine x_swK (tgt := 179) hx hb dX5_count_1 c1_13 (by decide) (by decide) rfl (by decide) ?_
    refine lv_aload_n hx hb dX5_count_179 rfl (lv_at hl 0 rfl) ?_
    refine x_get hc hG 0 rfl iX5 12 lX5_43 rfl dX5_count_180 ?_
    obtain ⟨v183, e183, h⟩ := bd1_some h
    refine x_si (rest := []) (ws' := (wX5 cI ad deeds finding asked upper lower m_at wrong rowSize rows textSize texts spare now draft tried past kept keptPast keptDeeds findings worth)) hc hG (cc_X5_there (fun k => ad (12 + k)) 3 keptDeeds v183 e183) [12] [0, 1, 2, 3, 4, 5, 6, 7, 8, 9, 10, 11, 13, 14] [0, 1, 2, 3, 4, 5, 6, 7, 8, 9, 10, 11, 14, 12, 13] rfl rfl rfl lX5_261 ⟨rfl, rfl, by decide, by decide⟩ rfl hl.1 (Nat.le_of_ble_eq_true rfl) rfl dX5_count_183 (fun H locs hG => ?_)
    cases h
    exact hret _ _ _ _ hG dX5_count_186 rfl
  rw [if_neg c1_13] at h
  refine x_swD (tgt := 187) hx hb dX5_count_1 [0, 1, 2, 3, 4, 5, 6, 7, 8, 9, 10, 11, 12, 13] (by decide) (List.forall_mem_cons.mpr ⟨lv_neT c1_0 (by decide), (List.forall_mem_cons.mpr ⟨lv_neT c1_1 (by decide), (List.forall_mem_cons.mpr ⟨lv_neT c1_2 (by decide), (List.forall_mem_cons.mpr ⟨lv_neT c1_3 (by decide), (List.forall_mem_cons.mpr ⟨lv_neT c1_4 (by decide), (List.forall_mem_cons.mpr ⟨lv_neT c1_5 (by decide), (List.forall_mem_cons.mpr ⟨lv_neT c1_6 (by decide), (List.forall_mem_cons.mpr ⟨lv_neT c1_7 (by decide), (List.forall_mem_cons.mpr ⟨lv_neT c1_8 (by decide), (List.forall_mem_cons.mpr ⟨lv_neT c1_9 (by decide), (List.forall_mem_cons.mpr ⟨lv_neT c1_10 (by decide), (List.forall_mem_cons.mpr ⟨lv_neT c1_11 (by decide), (List.forall_mem_cons.mpr ⟨lv_neT c1_12 (by decide), (List.forall_mem_cons.mpr ⟨lv_neT c1_13 (by decide), (List.forall_mem_nil _)⟩)⟩)⟩)⟩)⟩)⟩)⟩)⟩)⟩)⟩)⟩)⟩)⟩)⟩) (by decide) ?_
  refine lv_iconst (v := (-1)) hx hb dX5_count_187 (by decide) ?_
  cases h
  exact hret _ _ _ _ hG dX5_count_188 rfl
set_option maxRecDepth 100000 in
set_option maxHeartbeats 4000000 in
theorem cc_X5_finding {l : Launch} {D : va_G} {cI : ClassId} {tL : Nat} (ad : Nat → Nat) (deeds : Int32) (finding : Int32) (asked : Int32) (upper : Int64) (lower : Int64) (m_at : Int32) (wrong : Int32) (rowSize : Nat → Int32) (rows : Nat → Int32) (textSize : Nat → Int32) (texts : Nat → Int32) (spare : Nat → Int32) (now : Nat → Int32) (draft : Nat → Int32) (tried : Nat → Int32) (past : Nat → Int32) (kept : Nat → Int32) (keptPast : Nat → Int32) (keptDeeds : Nat → Int32) (findings : Nat → Int32) (worth : Nat → Int32) (r' : Int32) (h : fX5_finding finding = some r') : Ci l D cI tL yX5_finding cX5_finding 1 .int rmX5_finding (wX5 cI ad deeds finding asked upper lower m_at wrong rowSize rows textSize texts spare now draft tried past kept keptPast keptDeeds findings worth) [.ref (ad 0)] r' (wX5 cI ad deeds finding asked upper lower m_at wrong rowSize rows textSize texts spare now draft tried past kept keptPast keptDeeds findings worth) := by
  refine Ci_of (own := RX5) (by decide) (Nat.le_of_ble_eq_true rfl) rfl ?_
  intro p e s m below meth c Q A AV hc hret ls hl hG
  obtain ⟨hx, hb, hml, hown, hts, hK, hA, hz⟩ := id hc
  have hl : lv_has ls 1 [(0, .ref (ad 0))] := hl
  unfold fX5_finding at h
  refine lv_aload_n hx hb dX5_finding_0 rfl (lv_at hl 0 rfl) ?_
  refine x_get hc hG 0 rfl iX5 13 lX5_56 rfl dX5_finding_1 ?_
  cases h
  exact hret _ _ _ _ hG dX5_finding_4 rfl
set_option maxRecDepth 100000 in
set_option maxHeartbeats 4000000 in
theorem cc_X5_findings {l : Launch} {D : va_G} {cI : ClassId} {tL : Nat} (ad : Nat → Nat) (deeds : Int32) (finding : Int32) (asked : Int32) (upper : Int64) (lower : Int64) (m_at : Int32) (wrong : Int32) (rowSize : Nat → Int32) (rows : Nat → Int32) (textSize : Nat → Int32) (texts : Nat → Int32) (spare : Nat → Int32) (now : Nat → Int32) (draft : Nat → Int32) (tried : Nat → Int32) (past : Nat → Int32) (kept : Nat → Int32) (keptPast : Nat → Int32) (keptDeeds : Nat → Int32) (findings : Nat → Int32) (worth : Nat → Int32) (x1 : Int32) (r' : Int32) (h : fX5_findings findings x1 = some r') : Ci l D cI tL yX5_findings cX5_findings 2 .int rmX5_findings (wX5 cI ad deeds finding asked upper lower m_at wrong rowSize rows textSize texts spare now draft tried past kept keptPast keptDeeds findings worth) [.ref (ad 0), .int x1] r' (wX5 cI ad deeds finding asked upper lower m_at wrong rowSize rows textSize texts spare now draft tried past kept keptPast keptDeeds findings worth) := by
  refine Ci_of (own := RX5) (by decide) (Nat.le_of_ble_eq_true rfl) rfl ?_
  intro p e s m below meth c Q A AV hc hret ls hl hG
  obtain ⟨hx, hb, hml, hown, hts, hK, hA, hz⟩ := id hc
  have hl : lv_has ls 2 [(0, .ref (ad 0)), (1, .int x1)] := hl
  unfold fX5_findings at h
  refine lv_iload_n hx hb dX5_findings_0 rfl (lv_at hl 1 rfl) ?_
  refine lv_iconst (v := 1) hx hb dX5_findings_1 (by decide) ?_
  refine lv_iconst (v := 5) hx hb dX5_findings_2 (by decide) ?_
  obtain ⟨v3, e3, h⟩ := bd1_some h
  refine x_si0 (rest := []) hc hG (cc_X5_in0 x1 1 5 v3 e3) lX5_63 ⟨rfl, rfl, by decide, by decide⟩ rfl hl.1 (Nat.le_of_ble_eq_true rfl) rfl dX5_findings_3 (fun H locs hG => ?_)
  refine lv_if_eq (tgt := 18) hx hb dX5_findings_6 (by decide) (fun c6 => ?_) (fun c6 => ?_)
  · rw [if_pos c6] at h
    refine lv_iconst (v := (-1)) hx hb dX5_findings_18 (by decide) ?_
    cases h
    exact hret _ _ _ _ hG dX5_findings_19 rfl
  · rw [if_neg c6] at h
    refine lv_aload_n hx hb dX5_findings_9 rfl (lv_at hl 0 rfl) ?_
    refine x_get hc hG 0 rfl iX5 14 lX5_46 rfl dX5_findings_10 ?_
    refine lv_iload_n hx hb dX5_findings_13 rfl (lv_at hl 1 rfl) ?_
    obtain ⟨v14, e14, h⟩ := bd1_some h
    refine x_ald hc hG 13 rfl e14 dX5_findings_14 ?_
    refine lv_goto (tgt := 19) hx hb dX5_findings_15 (by decide) ?_
    cases h
    exact hret _ _ _ _ hG dX5_findings_19 rfl
set_option maxRecDepth 100000 in
set_option maxHeartbeats 4000000 in
theorem cc_X5_summed {l : Launch} {D : va_G} {cI : ClassId} {tL : Nat} (ad : Nat → Nat) (n0 : Nat) (n1 : Nat) (a0 : Nat → Int32) (a1 : Nat → Int32) (x0 : Int64) (x4 : Int32) (r' : Int64) (h : fX5_summed n0 n1 a0 a1 x0 x4 = some r') : Cl l D cI tL yX5_summed cX5_summed 9 rmX5_summed (wA2 cI ad n0 n1 a0 a1) [.long x0, .ref (ad 0), .ref (ad 1), .int x4] r' (wA2 cI ad n0 n1 a0 a1) := by
  refine Cl_of (own := RX5) (by decide) (Nat.le_of_ble_eq_true rfl) rfl ?_
  intro p e s m below meth c Q A AV hc hret ls hl hG
  obtain ⟨hx, hb, hml, hown, hts, hK, hA, hz⟩ := id hc
  have hl : lv_has ls 9 [(0, .long x0), (2, .ref (ad 0)), (3, .ref (ad 1)), (4, .int x4)] := hl
  have hL_43 : ∀ (x4 : Int32) (x7 : Int32) (x5_o : Int64), (∀ (ls : Array Slot) (H : Heap) (locs : List Loc), lv_has ls 9 [(2, .ref (ad 0)), (3, .ref (ad 1)), (4, .int x4), (5, .long x5_o), (7, .int x7)] → St D A s (wA2 cI ad n0 n1 a0 a1) H locs → W p l e rmX5_summed s m AV below meth c H locs 0 0 Q (F0 m 78 ls [])) → ∀ (n : Nat) (x5 : Int64) (x8 : Int32), fX5_summed_L43 n0 n1 a0 a1 x4 x7 n x5 x8 = some x5_o → ∀ (ls : Array Slot) (H : Heap) (locs : List Loc), lv_has ls 9 [(2, .ref (ad 0)), (3, .ref (ad 1)), (4, .int x4), (5, .long x5), (7, .int x7), (8, .int x8)] → St D A s (wA2 cI ad n0 n1 a0 a1) H locs → W p l e rmX5_summed s m AV below meth c H locs 0 0 Q (F0 m 43 ls []) := by
    intro x4 x7 x5_o KE n
    induction n with
    | zero =>
      intro x5 x8 h
      exact nomatch (show none = some _ from h)
    | succ n ih =>
      intro x5 x8 h ls H locs hl hG
      have h : fX5_summed_B43 n0 n1 a0 a1 x4 x7 (fX5_summed_L43 n0 n1 a0 a1 x4 x7 n) x5 x8 = some x5_o := h
      unfold fX5_summed_B43 at h
      refine lv_iload hx hb dX5_summed_43 (lv_at hl 5 rfl) ?_
      refine lv_aload_n hx hb dX5_summed_45 rfl (lv_at hl 0 rfl) ?_
      refine lv_iload hx hb dX5_summed_46 (lv_at hl 4 rfl) ?_
      obtain ⟨v48, e48, h⟩ := bd1_some h
      refine x_ald hc hG 0 rfl e48 dX5_summed_48 ?_
      refine lv_icmp_ge (tgt := 78) hx hb dX5_summed_49 (by decide) (fun c49 => ?_) (fun c49 => ?_)
      · rw [if_pos c49] at h
        cases h
        exact KE _ _ _ (lv_sub hl [0, 1, 2, 3, 4] rfl) hG
      · rw [if_neg c49] at h
        refine lv_ldc2 (v := 31) hx hb hown (hts _ kX5_264) dX5_summed_52 ?_
        refine lv_lload hx hb dX5_summed_55 (lv_at hl 3 rfl) ?_
        refine lv_lmul hx hb dX5_summed_57 ?_
        refine lv_aload_n hx hb dX5_summed_58 rfl (lv_at hl 1 rfl) ?_
        refine lv_iload hx hb dX5_summed_59 (lv_at hl 2 rfl) ?_
        refine lv_iload hx hb dX5_summed_61 (lv_at hl 4 rfl) ?_
        refine lv_imul hx hb dX5_summed_63 ?_
        refine lv_iload hx hb dX5_summed_64 (lv_at hl 5 rfl) ?_
        refine lv_iadd hx hb dX5_summed_66 ?_
        obtain ⟨v67, e67, h⟩ := bd1_some h
        refine x_ald hc hG 1 rfl e67 dX5_summed_67 ?_
        refine lv_i2l hx hb dX5_summed_68 rfl ?_
        refine lv_ladd hx hb dX5_summed_69 ?_
        refine lv_lstore (lv' := [(5, .long ((31 * x5) + (Int32.toInt64 v67))), (2, .ref (ad 0)), (3, .ref (ad 1)), (4, .int x4), (7, .int x7), (8, .int x8)]) hx hb dX5_summed_70 hl (by decide) rfl (fun ls hl => ?_)
        refine lv_iinc (v := (x8 + 1)) (lv' := [(8, .int (x8 + 1)), (5, .long ((31 * x5) + (Int32.toInt64 v67))), (2, .ref (ad 0)), (3, .ref (ad 1)), (4, .int x4), (7, .int x7)]) hx hb dX5_summed_72 hl (k := 5) rfl rfl (by decide) rfl (fun ls hl => ?_)
        refine lv_goto (tgt := 43) hx hb dX5_summed_75 (by decide) ?_
        exact ih _ _ h _ _ _ (lv_sub hl [2, 3, 4, 1, 5, 0] rfl) hG
  have hL_6 : ∀ (x4 : Int32) (x5_o : Int64), (∀ (ls : Array Slot) (H : Heap) (locs : List Loc), lv_has ls 9 [(2, .ref (ad 0)), (3, .ref (ad 1)), (5, .long x5_o)] → St D A s (wA2 cI ad n0 n1 a0 a1) H locs → W p l e rmX5_summed s m AV below meth c H locs 0 0 Q (F0 m 84 ls [])) → ∀ (n : Nat) (x5 : Int64) (x7 : Int32), fX5_summed_L6 n0 n1 a0 a1 x4 n x5 x7 = some x5_o → ∀ (ls : Array Slot) (H : Heap) (locs : List Loc), lv_has ls 9 [(2, .ref (ad 0)), (3, .ref (ad 1)), (4, .int x4), (5, .long x5), (7, .int x7)] → St D A s (wA2 cI ad n0 n1 a0 a1) H locs → W p l e rmX5_summed s m AV below meth c H locs 0 0 Q (F0 m 6 ls []) := by
    intro x4 x5_o KE n
    induction n with
    | zero =>
      intro x5 x7 h
      exact nomatch (show none = some _ from h)
    | succ n ih =>
      intro x5 x7 h ls H locs hl hG
      have h : fX5_summed_B6 n0 n1 a0 a1 x4 (fX5_summed_L6 n0 n1 a0 a1 x4 n) x5 x7 = some x5_o := h
      have hj_36 : ∀ (x7 : Int32) (k0 : Int64) (k1 : Int32) , fX5_summed_j36 (fX5_summed_L6 n0 n1 a0 a1 x4 n) n0 n1 a0 a1 x4 x7 k0 k1 = some x5_o → ∀ (ls : Array Slot) (H : Heap) (locs : List Loc), lv_has ls 9 [(2, .ref (ad 0)), (3, .ref (ad 1)), (4, .int x4), (7, .int x7)] → St D A s (wA2 cI ad n0 n1 a0 a1) H locs → W p l e rmX5_summed s m AV below meth c H locs 0 0 Q (F0 m 36 ls [.int k1, .long k0]) := by
        intro x7 k0 k1 h ls H locs hl hG
        unfold fX5_summed_j36 at h
        refine lv_i2l hx hb dX5_summed_36 rfl ?_
        refine lv_ladd hx hb dX5_summed_37 ?_
        refine lv_lstore (lv' := [(5, .long (k0 + (Int32.toInt64 k1))), (2, .ref (ad 0)), (3, .ref (ad 1)), (4, .int x4), (7, .int x7)]) hx hb dX5_summed_38 hl (by decide) rfl (fun ls hl => ?_)
        refine lv_iconst (v := 0) hx hb dX5_summed_40 (by decide) ?_
        refine lv_istore (lv' := [(8, .int 0), (5, .long (k0 + (Int32.toInt64 k1))), (2, .ref (ad 0)), (3, .ref (ad 1)), (4, .int x4), (7, .int x7)]) hx hb dX5_summed_41 hl (by decide) rfl (fun ls hl => ?_)
        obtain ⟨x5_L43, e43, h⟩ := bd1_some h
        refine hL_43 _ _ _ (fun ls H locs hl hG => ?_) _ _ _ e43 _ _ _ (lv_sub hl [2, 3, 4, 1, 5, 0] rfl) hG
        refine lv_iinc (v := (x7 + 1)) (lv' := [(7, .int (x7 + 1)), (2, .ref (ad 0)), (3, .ref (ad 1)), (4, .int x4), (5, .long x5_L43)]) hx hb dX5_summed_78 hl (k := 4) rfl rfl (by decide) rfl (fun ls hl => ?_)
        refine lv_goto (tgt := 6) hx hb dX5_summed_81 (by decide) ?_
        exact ih _ _ h _ _ _ (lv_sub hl [1, 2, 3, 4, 0] rfl) hG
      unfold fX5_summed_B6 at h
      refine lv_iload hx hb dX5_summed_6 (lv_at hl 4 rfl) ?_
      refine lv_aload_n hx hb dX5_summed_8 rfl (lv_at hl 0 rfl) ?_
      refine x_alen hc hG 0 rfl dX5_summed_9 ?_
      refine lv_icmp_ge (tgt := 84) hx hb dX5_summed_10 (by decide) (fun c10 => ?_) (fun c10 => ?_)
      · rw [if_pos c10] at h
        cases h
        exact KE _ _ _ (lv_sub hl [0, 1, 3] rfl) hG
      · rw [if_neg c10] at h
        refine lv_ldc2 (v := 31) hx hb hown (hts _ kX5_264) dX5_summed_13 ?_
        refine lv_lload hx hb dX5_summed_16 (lv_at hl 3 rfl) ?_
        refine lv_lmul hx hb dX5_summed_18 ?_
        refine lv_aload_n hx hb dX5_summed_19 rfl (lv_at hl 0 rfl) ?_
        refine lv_iload hx hb dX5_summed_20 (lv_at hl 4 rfl) ?_
        obtain ⟨v22, e22, h⟩ := bd1_some h
        refine x_ald hc hG 0 rfl e22 dX5_summed_22 ?_
        refine lv_bipush (v := (-9)) hx hb dX5_summed_23 (by decide) ?_
        refine lv_icmp_ne (tgt := 32) hx hb dX5_summed_25 (by decide) (fun c25 => ?_) (fun c25 => ?_)
        · rw [if_neg c25] at h
          refine lv_aload_n hx hb dX5_summed_32 rfl (lv_at hl 0 rfl) ?_
          refine lv_iload hx hb dX5_summed_33 (lv_at hl 4 rfl) ?_
          obtain ⟨v35, e35, h⟩ := bd1_some h
          refine x_ald hc hG 0 rfl e35 dX5_summed_35 ?_
          exact hj_36 _ _ _ h _ _ _ (lv_sub hl [0, 1, 2, 4] rfl) hG
        · rw [if_pos c25] at h
          refine lv_iconst (v := (-1)) hx hb dX5_summed_28 (by decide) ?_
          refine lv_goto (tgt := 36) hx hb dX5_summed_29 (by decide) ?_
          exact hj_36 _ _ _ h _ _ _ (lv_sub hl [0, 1, 2, 4] rfl) hG
  unfold fX5_summed at h
  refine lv_lload_n hx hb dX5_summed_0 rfl (lv_at hl 0 rfl) ?_
  refine lv_lstore (lv' := [(5, .long x0), (0, .long x0), (2, .ref (ad 0)), (3, .ref (ad 1)), (4, .int x4)]) hx hb dX5_summed_1 hl (by decide) rfl (fun ls hl => ?_)
  refine lv_iconst (v := 0) hx hb dX5_summed_3 (by decide) ?_
  refine lv_istore (lv' := [(7, .int 0), (5, .long x0), (0, .long x0), (2, .ref (ad 0)), (3, .ref (ad 1)), (4, .int x4)]) hx hb dX5_summed_4 hl (by decide) rfl (fun ls hl => ?_)
  obtain ⟨x5_L6, e6, h⟩ := bd1_some h
  refine hL_6 _ _ (fun ls H locs hl hG => ?_) _ _ _ e6 _ _ _ (lv_sub hl [3, 4, 5, 1, 0] rfl) hG
  refine lv_lload hx hb dX5_summed_84 (lv_at hl 2 rfl) ?_
  cases h
  exact hret _ _ _ _ hG dX5_summed_86
set_option maxRecDepth 100000 in
set_option maxHeartbeats 4000000 in
theorem cc_X5_digest {l : Launch} {D : va_G} {cI : ClassId} {tL : Nat} (ad : Nat → Nat) (deeds : Int32) (finding : Int32) (asked : Int32) (upper : Int64) (lower : Int64) (m_at : Int32) (wrong : Int32) (rowSize : Nat → Int32) (rows : Nat → Int32) (textSize : Nat → Int32) (texts : Nat → Int32) (spare : Nat → Int32) (now : Nat → Int32) (draft : Nat → Int32) (tried : Nat → Int32) (past : Nat → Int32) (kept : Nat → Int32) (keptPast : Nat → Int32) (keptDeeds : Nat → Int32) (findings : Nat → Int32) (worth : Nat → Int32) (r' : Int64) (h : fX5_digest deeds rowSize rows textSize texts now keptDeeds = some r') : Cl l D cI tL yX5_digest cX5_digest 5 rmX5_digest (wX5 cI ad deeds finding asked upper lower m_at wrong rowSize rows textSize texts spare now draft tried past kept keptPast keptDeeds findings worth) [.ref (ad 0)] r' (wX5 cI ad deeds finding asked upper lower m_at wrong rowSize rows textSize texts spare now draft tried past kept keptPast keptDeeds findings worth) := by
  refine Cl_of (own := RX5) (by decide) (Nat.le_of_ble_eq_true rfl) rfl ?_
  intro p e s m below meth c Q A AV hc hret ls hl hG
  obtain ⟨hx, hb, hml, hown, hts, hK, hA, hz⟩ := id hc
  have hl : lv_has ls 5 [(0, .ref (ad 0))] := hl
  have hL_6 : ∀  (x1_o : Int64), (∀ (ls : Array Slot) (H : Heap) (locs : List Loc), lv_has ls 5 [(0, .ref (ad 0)), (1, .long x1_o)] → St D A s (wX5 cI ad deeds finding asked upper lower m_at wrong rowSize rows textSize texts spare now draft tried past kept keptPast keptDeeds findings worth) H locs → W p l e rmX5_digest s m AV below meth c H locs 0 0 Q (F0 m 31 ls [])) → ∀ (n : Nat) (x1 : Int64) (x3 : Int32), fX5_digest_L6 deeds rowSize textSize now keptDeeds n x1 x3 = some x1_o → ∀ (ls : Array Slot) (H : Heap) (locs : List Loc), lv_has ls 5 [(0, .ref (ad 0)), (1, .long x1), (3, .int x3)] → St D A s (wX5 cI ad deeds finding asked upper lower m_at wrong rowSize rows textSize texts spare now draft tried past kept keptPast keptDeeds findings worth) H locs → W p l e rmX5_digest s m AV below meth c H locs 0 0 Q (F0 m 6 ls []) := by
    intro x1_o KE n
    induction n with
    | zero =>
      intro x1 x3 h
      exact nomatch (show none = some _ from h)
    | succ n ih =>
      intro x1 x3 h ls H locs hl hG
      have h : fX5_digest_B6 deeds rowSize textSize now keptDeeds (fX5_digest_L6 deeds rowSize textSize now keptDeeds n) x1 x3 = some x1_o := h
      unfold fX5_digest_B6 at h
      refine lv_iload_n hx hb dX5_digest_6 rfl (lv_at hl 2 rfl) ?_
      refine lv_bipush (v := 14) hx hb dX5_digest_7 (by decide) ?_
      refine lv_icmp_ge (tgt := 31) hx hb dX5_digest_9 (by decide) (fun c9 => ?_) (fun c9 => ?_)
      · rw [if_pos c9] at h
        cases h
        exact KE _ _ _ (lv_sub hl [0, 1] rfl) hG
      · rw [if_neg c9] at h
        refine lv_ldc2 (v := 31) hx hb hown (hts _ kX5_264) dX5_digest_12 ?_
        refine lv_lload_n hx hb dX5_digest_15 rfl (lv_at hl 1 rfl) ?_
        refine lv_lmul hx hb dX5_digest_16 ?_
        refine lv_aload_n hx hb dX5_digest_17 rfl (lv_at hl 0 rfl) ?_
        refine lv_iload_n hx hb dX5_digest_18 rfl (lv_at hl 2 rfl) ?_
        obtain ⟨v19, e19, h⟩ := bd1_some h
        refine x_vi (rest := [.long (31 * x1)]) (ws' := (wX5 cI ad deeds finding asked upper lower m_at wrong rowSize rows textSize texts spare now draft tried past kept keptPast keptDeeds findings worth)) hc hG (cc_X5_count ad deeds finding asked upper lower m_at wrong rowSize rows textSize texts spare now draft tried past kept keptPast keptDeeds findings worth x3 v19 e19) [0, 1, 2, 3, 4, 5, 6, 7, 8, 9, 10, 11, 12, 13, 14] [] [0, 1, 2, 3, 4, 5, 6, 7, 8, 9, 10, 11, 12, 13, 14] rfl rfl rfl 0 rfl rfl lX5_268 ⟨rfl, rfl, by decide, by decide⟩ rfl hl.1 (Nat.le_of_ble_eq_true rfl) rfl dX5_digest_19 (fun H locs hG => ?_)
        refine lv_i2l hx hb dX5_digest_22 rfl ?_
        refine lv_ladd hx hb dX5_digest_23 ?_
        refine lv_lstore_n (lv' := [(1, .long ((31 * x1) + (Int32.toInt64 v19))), (0, .ref (ad 0)), (3, .int x3)]) hx hb dX5_digest_24 rfl hl (by decide) rfl (fun ls hl => ?_)
        refine lv_iinc (v := (x3 + 1)) (lv' := [(3, .int (x3 + 1)), (1, .long ((31 * x1) + (Int32.toInt64 v19))), (0, .ref (ad 0))]) hx hb dX5_digest_25 hl (k := 2) rfl rfl (by decide) rfl (fun ls hl => ?_)
        refine lv_goto (tgt := 6) hx hb dX5_digest_28 (by decide) ?_
        exact ih _ _ h _ _ _ (lv_sub hl [2, 1, 0] rfl) hG
  have hL_46 : ∀ (x3 : Int32) (x1_o : Int64), (∀ (ls : Array Slot) (H : Heap) (locs : List Loc), lv_has ls 5 [(0, .ref (ad 0)), (1, .long x1_o), (3, .int x3)] → St D A s (wX5 cI ad deeds finding asked upper lower m_at wrong rowSize rows textSize texts spare now draft tried past kept keptPast keptDeeds findings worth) H locs → W p l e rmX5_digest s m AV below meth c H locs 0 0 Q (F0 m 74 ls [])) → ∀ (n : Nat) (x1 : Int64) (x4 : Int32), fX5_digest_L46 now x3 n x1 x4 = some x1_o → ∀ (ls : Array Slot) (H : Heap) (locs : List Loc), lv_has ls 5 [(0, .ref (ad 0)), (1, .long x1), (3, .int x3), (4, .int x4)] → St D A s (wX5 cI ad deeds finding asked upper lower m_at wrong rowSize rows textSize texts spare now draft tried past kept keptPast keptDeeds findings worth) H locs → W p l e rmX5_digest s m AV below meth c H locs 0 0 Q (F0 m 46 ls []) := by
    intro x3 x1_o KE n
    induction n with
    | zero =>
      intro x1 x4 h
      exact nomatch (show none = some _ from h)
    | succ n ih =>
      intro x1 x4 h ls H locs hl hG
      have h : fX5_digest_B46 now x3 (fX5_digest_L46 now x3 n) x1 x4 = some x1_o := h
      unfold fX5_digest_B46 at h
      refine lv_iload hx hb dX5_digest_46 (lv_at hl 3 rfl) ?_
      refine lv_bipush (v := 7) hx hb dX5_digest_48 (by decide) ?_
      refine lv_icmp_ge (tgt := 74) hx hb dX5_digest_50 (by decide) (fun c50 => ?_) (fun c50 => ?_)
      · rw [if_pos c50] at h
        cases h
        exact KE _ _ _ (lv_sub hl [0, 1, 2] rfl) hG
      · rw [if_neg c50] at h
        refine lv_ldc2 (v := 31) hx hb hown (hts _ kX5_264) dX5_digest_53 ?_
        refine lv_lload_n hx hb dX5_digest_56 rfl (lv_at hl 1 rfl) ?_
        refine lv_lmul hx hb dX5_digest_57 ?_
        refine lv_aload_n hx hb dX5_digest_58 rfl (lv_at hl 0 rfl) ?_
        refine lv_iload_n hx hb dX5_digest_59 rfl (lv_at hl 2 rfl) ?_
        refine lv_iload hx hb dX5_digest_60 (lv_at hl 3 rfl) ?_
        obtain ⟨v62, e62, h⟩ := bd1_some h
        refine x_vi (rest := [.long (31 * x1)]) (ws' := (wX5 cI ad deeds finding asked upper lower m_at wrong rowSize rows textSize texts spare now draft tried past kept keptPast keptDeeds findings worth)) hc hG (cc_X5_tellsOf ad deeds finding asked upper lower m_at wrong rowSize rows textSize texts spare now draft tried past kept keptPast keptDeeds findings worth x3 x4 v62 e62) [0, 1, 2, 3, 4, 5, 6, 7, 8, 9, 10, 11, 12, 13, 14] [] [0, 1, 2, 3, 4, 5, 6, 7, 8, 9, 10, 11, 12, 13, 14] rfl rfl rfl 0 rfl rfl lX5_173 ⟨rfl, rfl, by decide, by decide⟩ rfl hl.1 (Nat.le_of_ble_eq_true rfl) rfl dX5_digest_62 (fun H locs hG => ?_)
        refine lv_i2l hx hb dX5_digest_65 rfl ?_
        refine lv_ladd hx hb dX5_digest_66 ?_
        refine lv_lstore_n (lv' := [(1, .long ((31 * x1) + (Int32.toInt64 v62))), (0, .ref (ad 0)), (3, .int x3), (4, .int x4)]) hx hb dX5_digest_67 rfl hl (by decide) rfl (fun ls hl => ?_)
        refine lv_iinc (v := (x4 + 1)) (lv' := [(4, .int (x4 + 1)), (1, .long ((31 * x1) + (Int32.toInt64 v62))), (0, .ref (ad 0)), (3, .int x3)]) hx hb dX5_digest_68 hl (k := 3) rfl rfl (by decide) rfl (fun ls hl => ?_)
        refine lv_goto (tgt := 46) hx hb dX5_digest_71 (by decide) ?_
        exact ih _ _ h _ _ _ (lv_sub hl [2, 1, 3, 0] rfl) hG
  have hL_82 : ∀  (x1_o : Int64), (∀ (ls : Array Slot) (H : Heap) (locs : List Loc), lv_has ls 5 [(0, .ref (ad 0)), (1, .long x1_o)] → St D A s (wX5 cI ad deeds finding asked upper lower m_at wrong rowSize rows textSize texts spare now draft tried past kept keptPast keptDeeds findings worth) H locs → W p l e rmX5_digest s m AV below meth c H locs 0 0 Q (F0 m 122 ls [])) → ∀ (n : Nat) (x1 : Int64) (x3 : Int32), fX5_digest_L82 keptDeeds n x1 x3 = some x1_o → ∀ (ls : Array Slot) (H : Heap) (locs : List Loc), lv_has ls 5 [(0, .ref (ad 0)), (1, .long x1), (3, .int x3)] → St D A s (wX5 cI ad deeds finding asked upper lower m_at wrong rowSize rows textSize texts spare now draft tried past kept keptPast keptDeeds findings worth) H locs → W p l e rmX5_digest s m AV below meth c H locs 0 0 Q (F0 m 82 ls []) := by
    intro x1_o KE n
    induction n with
    | zero =>
      intro x1 x3 h
      exact nomatch (show none = some _ from h)
    | succ n ih =>
      intro x1 x3 h ls H locs hl hG
      have h : fX5_digest_B82 keptDeeds (fX5_digest_L82 keptDeeds n) x1 x3 = some x1_o := h
      have hj_113 : ∀ (x3 : Int32) (k0 : Int64) (k1 : Int32) , fX5_digest_j113 (fX5_digest_L82 keptDeeds n) keptDeeds x3 k0 k1 = some x1_o → ∀ (ls : Array Slot) (H : Heap) (locs : List Loc), lv_has ls 5 [(0, .ref (ad 0)), (3, .int x3)] → St D A s (wX5 cI ad deeds finding asked upper lower m_at wrong rowSize rows textSize texts spare now draft tried past kept keptPast keptDeeds findings worth) H locs → W p l e rmX5_digest s m AV below meth c H locs 0 0 Q (F0 m 113 ls [.int k1, .long k0]) := by
        intro x3 k0 k1 h ls H locs hl hG
        unfold fX5_digest_j113 at h
        refine lv_i2l hx hb dX5_digest_113 rfl ?_
        refine lv_ladd hx hb dX5_digest_114 ?_
        refine lv_lstore_n (lv' := [(1, .long (k0 + (Int32.toInt64 k1))), (0, .ref (ad 0)), (3, .int x3)]) hx hb dX5_digest_115 rfl hl (by decide) rfl (fun ls hl => ?_)
        refine lv_iinc (v := (x3 + 1)) (lv' := [(3, .int (x3 + 1)), (1, .long (k0 + (Int32.toInt64 k1))), (0, .ref (ad 0))]) hx hb dX5_digest_116 hl (k := 2) rfl rfl (by decide) rfl (fun ls hl => ?_)
        refine lv_goto (tgt := 82) hx hb dX5_digest_119 (by decide) ?_
        exact ih _ _ h _ _ _ (lv_sub hl [2, 1, 0] rfl) hG
      unfold fX5_digest_B82 at h
      refine lv_iload_n hx hb dX5_digest_82 rfl (lv_at hl 2 rfl) ?_
      refine lv_iconst (v := 3) hx hb dX5_digest_83 (by decide) ?_
      refine lv_icmp_ge (tgt := 122) hx hb dX5_digest_84 (by decide) (fun c84 => ?_) (fun c84 => ?_)
      · rw [if_pos c84] at h
        cases h
        exact KE _ _ _ (lv_sub hl [0, 1] rfl) hG
      · rw [if_neg c84] at h
        refine lv_ldc2 (v := 31) hx hb hown (hts _ kX5_264) dX5_digest_87 ?_
        refine lv_lload_n hx hb dX5_digest_90 rfl (lv_at hl 1 rfl) ?_
        refine lv_lmul hx hb dX5_digest_91 ?_
        refine lv_aload_n hx hb dX5_digest_92 rfl (lv_at hl 0 rfl) ?_
        refine x_get hc hG 0 rfl iX5 12 lX5_43 rfl dX5_digest_93 ?_
        refine lv_iload_n hx hb dX5_digest_96 rfl (lv_at hl 2 rfl) ?_
        obtain ⟨v97, e97, h⟩ := bd1_some h
        refine x_ald hc hG 12 rfl e97 dX5_digest_97 ?_
        refine lv_bipush (v := (-9)) hx hb dX5_digest_98 (by decide) ?_
        refine lv_icmp_ne (tgt := 107) hx hb dX5_digest_100 (by decide) (fun c100 => ?_) (fun c100 => ?_)
        · rw [if_neg c100] at h
          refine lv_aload_n hx hb dX5_digest_107 rfl (lv_at hl 0 rfl) ?_
          refine x_get hc hG 0 rfl iX5 12 lX5_43 rfl dX5_digest_108 ?_
          refine lv_iload_n hx hb dX5_digest_111 rfl (lv_at hl 2 rfl) ?_
          obtain ⟨v112, e112, h⟩ := bd1_some h
          refine x_ald hc hG 12 rfl e112 dX5_digest_112 ?_
          exact hj_113 _ _ _ h _ _ _ (lv_sub hl [0, 2] rfl) hG
        · rw [if_pos c100] at h
          refine lv_iconst (v := (-1)) hx hb dX5_digest_103 (by decide) ?_
          refine lv_goto (tgt := 113) hx hb dX5_digest_104 (by decide) ?_
          exact hj_113 _ _ _ h _ _ _ (lv_sub hl [0, 2] rfl) hG
  have hL_33 : ∀  (x1_o : Int64), (∀ (ls : Array Slot) (H : Heap) (locs : List Loc), lv_has ls 5 [(0, .ref (ad 0)), (1, .long x1_o)] → St D A s (wX5 cI ad deeds finding asked upper lower m_at wrong rowSize rows textSize texts spare now draft tried past kept keptPast keptDeeds findings worth) H locs → W p l e rmX5_digest s m AV below meth c H locs 0 0 Q (F0 m 80 ls [])) → ∀ (n : Nat) (x1 : Int64) (x3 : Int32), fX5_digest_L33 now n x1 x3 = some x1_o → ∀ (ls : Array Slot) (H : Heap) (locs : List Loc), lv_has ls 5 [(0, .ref (ad 0)), (1, .long x1), (3, .int x3)] → St D A s (wX5 cI ad deeds finding asked upper lower m_at wrong rowSize rows textSize texts spare now draft tried past kept keptPast keptDeeds findings worth) H locs → W p l e rmX5_digest s m AV below meth c H locs 0 0 Q (F0 m 33 ls []) := by
    intro x1_o KE n
    induction n with
    | zero =>
      intro x1 x3 h
      exact nomatch (show none = some _ from h)
    | succ n ih =>
      intro x1 x3 h ls H locs hl hG
      have h : fX5_digest_B33 now (fX5_digest_L33 now n) x1 x3 = some x1_o := h
      unfold fX5_digest_B33 at h
      refine lv_iload_n hx hb dX5_digest_33 rfl (lv_at hl 2 rfl) ?_
      refine lv_aload_n hx hb dX5_digest_34 rfl (lv_at hl 0 rfl) ?_
      refine x_get hc hG 0 rfl iX5 5 lX5_25 rfl dX5_digest_35 ?_
      refine lv_iconst (v := 1) hx hb dX5_digest_38 (by decide) ?_
      obtain ⟨v39, e39, h⟩ := bd1_some h
      refine x_ald hc hG 6 rfl e39 dX5_digest_39 ?_
      refine lv_icmp_ge (tgt := 80) hx hb dX5_digest_40 (by decide) (fun c40 => ?_) (fun c40 => ?_)
      · rw [if_pos c40] at h
        cases h
        exact KE _ _ _ (lv_sub hl [0, 1] rfl) hG
      · rw [if_neg c40] at h
        refine lv_iconst (v := 0) hx hb dX5_digest_43 (by decide) ?_
        refine lv_istore (lv' := [(4, .int 0), (0, .ref (ad 0)), (1, .long x1), (3, .int x3)]) hx hb dX5_digest_44 hl (by decide) rfl (fun ls hl => ?_)
        obtain ⟨x1_L46, e46, h⟩ := bd1_some h
        refine hL_46 _ _ (fun ls H locs hl hG => ?_) _ _ _ e46 _ _ _ (lv_sub hl [1, 2, 3, 0] rfl) hG
        refine lv_iinc (v := (x3 + 1)) (lv' := [(3, .int (x3 + 1)), (0, .ref (ad 0)), (1, .long x1_L46)]) hx hb dX5_digest_74 hl (k := 2) rfl rfl (by decide) rfl (fun ls hl => ?_)
        refine lv_goto (tgt := 33) hx hb dX5_digest_77 (by decide) ?_
        exact ih _ _ h _ _ _ (lv_sub hl [1, 2, 0] rfl) hG
  unfold fX5_digest at h
  refine lv_ldc2 (v := 17) hx hb hown (hts _ kX5_266) dX5_digest_0 ?_
  refine lv_lstore_n (lv' := [(1, .long 17), (0, .ref (ad 0))]) hx hb dX5_digest_3 rfl hl (by decide) rfl (fun ls hl => ?_)
  refine lv_iconst (v := 0) hx hb dX5_digest_4 (by decide) ?_
  refine lv_istore_n (lv' := [(3, .int 0), (1, .long 17), (0, .ref (ad 0))]) hx hb dX5_digest_5 rfl hl (by decide) rfl (fun ls hl => ?_)
  obtain ⟨x1_L6, e6, h⟩ := bd1_some h
  refine hL_6 _ (fun ls H locs hl hG => ?_) _ _ _ e6 _ _ _ (lv_sub hl [2, 1, 0] rfl) hG
  refine lv_iconst (v := 0) hx hb dX5_digest_31 (by decide) ?_
  refine lv_istore_n (lv' := [(3, .int 0), (0, .ref (ad 0)), (1, .long x1_L6)]) hx hb dX5_digest_32 rfl hl (by decide) rfl (fun ls hl => ?_)
  obtain ⟨x1_L33, e33, h⟩ := bd1_some h
  refine hL_33 _ (fun ls H locs hl hG => ?_) _ _ _ e33 _ _ _ (lv_sub hl [1, 2, 0] rfl) hG
  refine lv_iconst (v := 0) hx hb dX5_digest_80 (by decide) ?_
  refine lv_istore_n (lv' := [(3, .int 0), (0, .ref (ad 0)), (1, .long x1_L33)]) hx hb dX5_digest_81 rfl hl (by decide) rfl (fun ls hl => ?_)
  obtain ⟨x1_L82, e82, h⟩ := bd1_some h
  refine hL_82 _ (fun ls H locs hl hG => ?_) _ _ _ e82 _ _ _ (lv_sub hl [1, 2, 0] rfl) hG
  refine lv_lload_n hx hb dX5_digest_122 rfl (lv_at hl 1 rfl) ?_
  refine lv_aload_n hx hb dX5_digest_123 rfl (lv_at hl 0 rfl) ?_
  refine x_get hc hG 0 rfl iX5 0 lX5_7 rfl dX5_digest_124 ?_
  refine lv_aload_n hx hb dX5_digest_127 rfl (lv_at hl 0 rfl) ?_
  refine x_get hc hG 0 rfl iX5 1 lX5_13 rfl dX5_digest_128 ?_
  refine lv_bipush (v := 40) hx hb dX5_digest_131 (by decide) ?_
  obtain ⟨v133, e133, h⟩ := bd1_some h
  refine x_sl (rest := []) (ws' := (wX5 cI ad deeds finding asked upper lower m_at wrong rowSize rows textSize texts spare now draft tried past kept keptPast keptDeeds findings worth)) hc hG (cc_X5_summed (fun k => ad (1 + k)) 6 240 rowSize rows x1_L82 40 v133 e133) [1, 2] [0, 3, 4, 5, 6, 7, 8, 9, 10, 11, 12, 13, 14] [0, 13, 14, 1, 2, 3, 4, 5, 6, 7, 8, 9, 10, 11, 12] rfl rfl rfl lX5_271 ⟨rfl, rfl, by decide, by decide⟩ rfl hl.1 (Nat.le_of_ble_eq_true rfl) rfl dX5_digest_133 (fun H locs hG => ?_)
  refine lv_aload_n hx hb dX5_digest_136 rfl (lv_at hl 0 rfl) ?_
  refine x_get hc hG 0 rfl iX5 2 lX5_16 rfl dX5_digest_137 ?_
  refine lv_aload_n hx hb dX5_digest_140 rfl (lv_at hl 0 rfl) ?_
  refine x_get hc hG 0 rfl iX5 3 lX5_19 rfl dX5_digest_141 ?_
  refine lv_bipush (v := 60) hx hb dX5_digest_144 (by decide) ?_
  obtain ⟨v146, e146, h⟩ := bd1_some h
  refine x_sl (rest := []) (ws' := (wX5 cI ad deeds finding asked upper lower m_at wrong rowSize rows textSize texts spare now draft tried past kept keptPast keptDeeds findings worth)) hc hG (cc_X5_summed (fun k => ad (3 + k)) 4 240 textSize texts v133 60 v146 e146) [3, 4] [0, 1, 2, 5, 6, 7, 8, 9, 10, 11, 12, 13, 14] [0, 1, 2, 13, 14, 3, 4, 5, 6, 7, 8, 9, 10, 11, 12] rfl rfl rfl lX5_271 ⟨rfl, rfl, by decide, by decide⟩ rfl hl.1 (Nat.le_of_ble_eq_true rfl) rfl dX5_digest_146 (fun H locs hG => ?_)
  cases h
  exact hret _ _ _ _ hG dX5_digest_149
