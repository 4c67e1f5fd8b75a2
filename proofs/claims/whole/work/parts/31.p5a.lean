/-! ===== printed by wip/whole/gen.py: contracts of PeelReadingsModel ===== -/
set_option maxRecDepth 100000 in
set_option maxHeartbeats 4000000 in
theorem cc_X5_in0 {l : Launch} {D : va_G} {cI : ClassId} {tL : Nat} (x0 : Int32) (x1 : Int32) (x2 : Int32) (r' : Int32) (h : fX5_in0 x0 x1 x2 = some r') : Ci l D cI tL yX5_in0 cX5_in0 3 .boolean rmX5_in0 [] [.int x0, .int x1, .int x2] r' [] := by
  refine Ci_of (own := RX5) (by decide) (Nat.le_of_ble_eq_true rfl) rfl ?_
  intro p e s m below meth c Q A AV hc hret ls hl hG
  obtain ⟨hx, hb, hml, hown, hts, hK, hA, hz⟩ := id hc
  have hl : lv_has ls 3 [(0, .int x0), (1, .int x1), (2, .int x2)] := hl
  unfold fX5_in0 at h
  refine lv_iload_n hx hb dX5_in0_0 rfl (lv_at hl 0 rfl) ?_
  refine lv_iload_n hx hb dX5_in0_1 rfl (lv_at hl 1 rfl) ?_
  refine lv_icmp_lt (tgt := 14) hx hb dX5_in0_2 (by decide) (fun c2 => ?_) (fun c2 => ?_)
  · rw [if_pos c2] at h
    refine lv_iconst (v := 0) hx hb dX5_in0_14 (by decide) ?_
    cases h
    exact hret _ _ _ _ hG dX5_in0_15 rfl
  · rw [if_neg c2] at h
    refine lv_iload_n hx hb dX5_in0_5 rfl (lv_at hl 0 rfl) ?_
    refine lv_iload_n hx hb dX5_in0_6 rfl (lv_at hl 2 rfl) ?_
    refine lv_icmp_gt (tgt := 14) hx hb dX5_in0_7 (by decide) (fun c7 => ?_) (fun c7 => ?_)
    · rw [if_pos c7] at h
      refine lv_iconst (v := 0) hx hb dX5_in0_14 (by decide) ?_
      cases h
      exact hret _ _ _ _ hG dX5_in0_15 rfl
    · rw [if_neg c7] at h
      refine lv_iconst (v := 1) hx hb dX5_in0_10 (by decide) ?_
      refine lv_goto (tgt := 15) hx hb dX5_in0_11 (by decide) ?_
      cases h
      exact hret _ _ _ _ hG dX5_in0_15 rfl
set_option maxRecDepth 100000 in
set_option maxHeartbeats 4000000 in
theorem cc_X5_has {l : Launch} {D : va_G} {cI : ClassId} {tL : Nat} (x0 : Int32) (x1 : Int32) (r' : Int32) (h : fX5_has x0 x1 = some r') : Ci l D cI tL yX5_has cX5_has 2 .boolean rmX5_has [] [.int x0, .int x1] r' [] := by
  refine Ci_of (own := RX5) (by decide) (Nat.le_of_ble_eq_true rfl) rfl ?_
  intro p e s m below meth c Q A AV hc hret ls hl hG
  obtain ⟨hx, hb, hml, hown, hts, hK, hA, hz⟩ := id hc
  have hl : lv_has ls 2 [(0, .int x0), (1, .int x1)] := hl
  unfold fX5_has at h
  refine lv_iload_n hx hb dX5_has_0 rfl (lv_at hl 0 rfl) ?_
  refine lv_iload_n hx hb dX5_has_1 rfl (lv_at hl 1 rfl) ?_
  refine lv_ishr hx hb dX5_has_2 ?_
  refine lv_iconst (v := 1) hx hb dX5_has_3 (by decide) ?_
  refine lv_iand hx hb dX5_has_4 ?_
  refine lv_iconst (v := 1) hx hb dX5_has_5 (by decide) ?_
  refine lv_icmp_ne (tgt := 13) hx hb dX5_has_6 (by decide) (fun c6 => ?_) (fun c6 => ?_)
  · rw [if_neg c6] at h
    refine lv_iconst (v := 0) hx hb dX5_has_13 (by decide) ?_
    cases h
    exact hret _ _ _ _ hG dX5_has_14 rfl
  · rw [if_pos c6] at h
    refine lv_iconst (v := 1) hx hb dX5_has_9 (by decide) ?_
    refine lv_goto (tgt := 14) hx hb dX5_has_10 (by decide) ?_
    cases h
    exact hret _ _ _ _ hG dX5_has_14 rfl
set_option maxRecDepth 100000 in
set_option maxHeartbeats 4000000 in
theorem cc_X5_ones {l : Launch} {D : va_G} {cI : ClassId} {tL : Nat} (x0 : Int32) (r' : Int32) (h : fX5_ones x0 = some r') : Ci l D cI tL yX5_ones cX5_ones 3 .int rmX5_ones [] [.int x0] r' [] := by
  refine Ci_of (own := RX5) (by decide) (Nat.le_of_ble_eq_true rfl) rfl ?_
  intro p e s m below meth c Q A AV hc hret ls hl hG
  obtain ⟨hx, hb, hml, hown, hts, hK, hA, hz⟩ := id hc
  have hl : lv_has ls 3 [(0, .int x0)] := hl
  have hL_4 : ∀ (x0 : Int32) (x1_o : Int32), (∀ (ls : Array Slot) (H : Heap) (locs : List Loc), lv_has ls 3 [(1, .int x1_o)] → St D A s [] H locs → W p l e rmX5_ones s m AV below meth c H locs 0 0 Q (F0 m 24 ls [])) → ∀ (n : Nat) (x1 : Int32) (x2 : Int32), fX5_ones_L4 x0 n x1 x2 = some x1_o → ∀ (ls : Array Slot) (H : Heap) (locs : List Loc), lv_has ls 3 [(0, .int x0), (1, .int x1), (2, .int x2)] → St D A s [] H locs → W p l e rmX5_ones s m AV below meth c H locs 0 0 Q (F0 m 4 ls []) := by
    intro x0 x1_o KE n
    induction n with
    | zero =>
      intro x1 x2 h
      exact nomatch (show none = some _ from h)
    | succ n ih =>
      intro x1 x2 h ls H locs hl hG
      have h : fX5_ones_B4 x0 (fX5_ones_L4 x0 n) x1 x2 = some x1_o := h
      unfold fX5_ones_B4 at h
      refine lv_iload_n hx hb dX5_ones_4 rfl (lv_at hl 2 rfl) ?_
      refine lv_bipush (v := 16) hx hb dX5_ones_5 (by decide) ?_
      refine lv_icmp_ge (tgt := 24) hx hb dX5_ones_7 (by decide) (fun c7 => ?_) (fun c7 => ?_)
      · rw [if_pos c7] at h
        cases h
        exact KE _ _ _ (lv_sub hl [1] rfl) hG
      · rw [if_neg c7] at h
        refine lv_iload_n hx hb dX5_ones_10 rfl (lv_at hl 1 rfl) ?_
        refine lv_iload_n hx hb dX5_ones_11 rfl (lv_at hl 0 rfl) ?_
        refine lv_iload_n hx hb dX5_ones_12 rfl (lv_at hl 2 rfl) ?_
        refine lv_ishr hx hb dX5_ones_13 ?_
        refine lv_iconst (v := 1) hx hb dX5_ones_14 (by decide) ?_
        refine lv_iand hx hb dX5_ones_15 ?_
        refine lv_iadd hx hb dX5_ones_16 ?_
        refine lv_istore_n (lv' := [(1, .int (x1 + ((x0 >>> (x2 &&& 31)) &&& 1))), (0, .int x0), (2, .int x2)]) hx hb dX5_ones_17 rfl hl (by decide) rfl (fun ls hl => ?_)
        refine lv_iinc (v := (x2 + 1)) (lv' := [(2, .int (x2 + 1)), (1, .int (x1 + ((x0 >>> (x2 &&& 31)) &&& 1))), (0, .int x0)]) hx hb dX5_ones_18 hl (k := 2) rfl rfl (by decide) rfl (fun ls hl => ?_)
        refine lv_goto (tgt := 4) hx hb dX5_ones_21 (by decide) ?_
        exact ih _ _ h _ _ _ (lv_sub hl [2, 1, 0] rfl) hG
  unfold fX5_ones at h
  refine lv_iconst (v := 0) hx hb dX5_ones_0 (by decide) ?_
  refine lv_istore_n (lv' := [(1, .int 0), (0, .int x0)]) hx hb dX5_ones_1 rfl hl (by decide) rfl (fun ls hl => ?_)
  refine lv_iconst (v := 0) hx hb dX5_ones_2 (by decide) ?_
  refine lv_istore_n (lv' := [(2, .int 0), (1, .int 0), (0, .int x0)]) hx hb dX5_ones_3 rfl hl (by decide) rfl (fun ls hl => ?_)
  obtain ⟨x1_L4, e4, h⟩ := bd1_some h
  refine hL_4 _ _ (fun ls H locs hl hG => ?_) _ _ _ e4 _ _ _ (lv_sub hl [2, 1, 0] rfl) hG
  refine lv_iload_n hx hb dX5_ones_24 rfl (lv_at hl 0 rfl) ?_
  cases h
  exact hret _ _ _ _ hG dX5_ones_25 rfl
set_option maxRecDepth 100000 in
set_option maxHeartbeats 4000000 in
theorem cc_X5_found0 {l : Launch} {D : va_G} {cI : ClassId} {tL : Nat} (ad : Nat → Nat) (deeds : Int32) (finding : Int32) (asked : Int32) (upper : Int64) (lower : Int64) (m_at : Int32) (wrong : Int32) (rowSize : Nat → Int32) (rows : Nat → Int32) (textSize : Nat → Int32) (texts : Nat → Int32) (spare : Nat → Int32) (now : Nat → Int32) (draft : Nat → Int32) (tried : Nat → Int32) (past : Nat → Int32) (kept : Nat → Int32) (keptPast : Nat → Int32) (keptDeeds : Nat → Int32) (findings : Nat → Int32) (worth : Nat → Int32) (x1 : Int32) (r' : Int32) (finding' : Int32) (findings' : Nat → Int32) (h : fX5_found0 findings x1 = some (r', finding', findings')) : Ci l D cI tL yX5_found0 cX5_found0 2 .int rmX5_found0 (wX5 cI ad deeds finding asked upper lower m_at wrong rowSize rows textSize texts spare now draft tried past kept keptPast keptDeeds findings worth) [.ref (ad 0), .int x1] r' (wX5 cI ad deeds finding' asked upper lower m_at wrong rowSize rows textSize texts spare now draft tried past kept keptPast keptDeeds findings' worth) := by
  refine Ci_of (own := RX5) (by decide) (Nat.le_of_ble_eq_true rfl) rfl ?_
  intro p e s m below meth c Q A AV hc hret ls hl hG
  obtain ⟨hx, hb, hml, hown, hts, hK, hA, hz⟩ := id hc
  have hl : lv_has ls 2 [(0, .ref (ad 0)), (1, .int x1)] := hl
  unfold fX5_found0 at h
  refine lv_aload_n hx hb dX5_found0_0 rfl (lv_at hl 0 rfl) ?_
  refine lv_iload_n hx hb dX5_found0_1 rfl (lv_at hl 1 rfl) ?_
  refine x_put (ws' := (wX5 cI ad deeds x1 asked upper lower m_at wrong rowSize rows textSize texts spare now draft tried past kept keptPast keptDeeds findings worth)) hc hG 0 rfl iX5 tyX5 tyX5_ok nmX5 13 lX5_56 rfl rfl rfl (Nat.le_of_ble_eq_true rfl) rfl dX5_found0_2 (fun H locs hG => ?_)
  refine lv_aload_n hx hb dX5_found0_5 rfl (lv_at hl 0 rfl) ?_
  refine x_get hc hG 0 rfl iX5 14 lX5_46 rfl dX5_found0_6 ?_
  refine lv_iload_n hx hb dX5_found0_9 rfl (lv_at hl 1 rfl) ?_
  refine lv_dup2_11 hx hb dX5_found0_10 rfl rfl ?_
  obtain ⟨v11, e11, h⟩ := bd1_some h
  refine x_ald hc hG 13 rfl e11 dX5_found0_11 ?_
  refine lv_iconst (v := 1) hx hb dX5_found0_12 (by decide) ?_
  refine lv_iadd hx hb dX5_found0_13 ?_
  obtain ⟨findings_14, e14, h⟩ := bd1_some h
  refine x_ast (ws' := (wX5 cI ad deeds x1 asked upper lower m_at wrong rowSize rows textSize texts spare now draft tried past kept keptPast keptDeeds findings_14 worth)) hc hG 13 rfl e14 rfl dX5_found0_14 (fun H locs hG => ?_)
  refine lv_bipush (v := (-3)) hx hb dX5_found0_15 (by decide) ?_
  cases h
  exact hret _ _ _ _ hG dX5_found0_17 rfl
set_option maxRecDepth 100000 in
set_option maxHeartbeats 4000000 in
theorem cc_X5_tells {l : Launch} {D : va_G} {cI : ClassId} {tL : Nat} (ad : Nat → Nat) (deeds : Int32) (finding : Int32) (asked : Int32) (upper : Int64) (lower : Int64) (m_at : Int32) (wrong : Int32) (rowSize : Nat → Int32) (rows : Nat → Int32) (textSize : Nat → Int32) (texts : Nat → Int32) (spare : Nat → Int32) (now : Nat → Int32) (draft : Nat → Int32) (tried : Nat → Int32) (past : Nat → Int32) (kept : Nat → Int32) (keptPast : Nat → Int32) (keptDeeds : Nat → Int32) (findings : Nat → Int32) (worth : Nat → Int32) (x1 : Int32) (r' : Int32) (asked' : Int32) (h : fX5_tells x1 = some (r', asked')) : Ci l D cI tL yX5_tells cX5_tells 2 .int rmX5_tells (wX5 cI ad deeds finding asked upper lower m_at wrong rowSize rows textSize texts spare now draft tried past kept keptPast keptDeeds findings worth) [.ref (ad 0), .int x1] r' (wX5 cI ad deeds finding asked' upper lower m_at wrong rowSize rows textSize texts spare now draft tried past kept keptPast keptDeeds findings worth) := by
  refine Ci_of (own := RX5) (by decide) (Nat.le_of_ble_eq_true rfl) rfl ?_
  intro p e s m below meth c Q A AV hc hret ls hl hG
  obtain ⟨hx, hb, hml, hown, hts, hK, hA, hz⟩ := id hc
  have hl : lv_has ls 2 [(0, .ref (ad 0)), (1, .int x1)] := hl
  unfold fX5_tells at h
  refine lv_aload_n hx hb dX5_tells_0 rfl (lv_at hl 0 rfl) ?_
  refine lv_iload_n hx hb dX5_tells_1 rfl (lv_at hl 1 rfl) ?_
  refine x_put (ws' := (wX5 cI ad deeds finding x1 upper lower m_at wrong rowSize rows textSize texts spare now draft tried past kept keptPast keptDeeds findings worth)) hc hG 0 rfl iX5 tyX5 tyX5_ok nmX5 15 lX5_60 rfl rfl rfl (Nat.le_of_ble_eq_true rfl) rfl dX5_tells_2 (fun H locs hG => ?_)
  refine lv_iconst (v := 1) hx hb dX5_tells_5 (by decide) ?_
  cases h
  exact hret _ _ _ _ hG dX5_tells_6 rfl
set_option maxRecDepth 100000 in
set_option maxHeartbeats 4000000 in
theorem cc_X5_isRow {l : Launch} {D : va_G} {cI : ClassId} {tL : Nat} (x0 : Int32) (r' : Int32) (h : fX5_isRow x0 = some r') : Ci l D cI tL yX5_isRow cX5_isRow 1 .boolean rmX5_isRow [] [.int x0] r' [] := by
  refine Ci_of (own := RX5) (by decide) (Nat.le_of_ble_eq_true rfl) rfl ?_
  intro p e s m below meth c Q A AV hc hret ls hl hG
  obtain ⟨hx, hb, hml, hown, hts, hK, hA, hz⟩ := id hc
  have hl : lv_has ls 1 [(0, .int x0)] := hl
  unfold fX5_isRow at h
  refine lv_iload_n hx hb dX5_isRow_0 rfl (lv_at hl 0 rfl) ?_
  refine lv_iconst (v := 0) hx hb dX5_isRow_1 (by decide) ?_
  refine lv_iconst (v := 5) hx hb dX5_isRow_2 (by decide) ?_
  obtain ⟨v3, e3, h⟩ := bd1_some h
  refine x_si0 (rest := []) hc hG (cc_X5_in0 x0 0 5 v3 e3) lX5_63 ⟨rfl, rfl, by decide, by decide⟩ rfl hl.1 (Nat.le_of_ble_eq_true rfl) rfl dX5_isRow_3 (fun H locs hG => ?_)
  by_cases cz : v3 &&& 1 = v3
  · rw [if_pos cz] at h
    cases h
    exact hret _ _ _ _ hG dX5_isRow_6 (nb cz)
  · rw [if_neg cz] at h
    cases h
set_option maxRecDepth 100000 in
set_option maxHeartbeats 4000000 in
theorem cc_X5_isText {l : Launch} {D : va_G} {cI : ClassId} {tL : Nat} (x0 : Int32) (r' : Int32) (h : fX5_isText x0 = some r') : Ci l D cI tL yX5_isText cX5_isText 1 .boolean rmX5_isText [] [.int x0] r' [] := by
  refine Ci_of (own := RX5) (by decide) (Nat.le_of_ble_eq_true rfl) rfl ?_
  intro p e s m below meth c Q A AV hc hret ls hl hG
  obtain ⟨hx, hb, hml, hown, hts, hK, hA, hz⟩ := id hc
  have hl : lv_has ls 1 [(0, .int x0)] := hl
  unfold fX5_isText at h
  refine lv_iload_n hx hb dX5_isText_0 rfl (lv_at hl 0 rfl) ?_
  refine lv_iconst (v := 0) hx hb dX5_isText_1 (by decide) ?_
  refine lv_iconst (v := 3) hx hb dX5_isText_2 (by decide) ?_
  obtain ⟨v3, e3, h⟩ := bd1_some h
  refine x_si0 (rest := []) hc hG (cc_X5_in0 x0 0 3 v3 e3) lX5_63 ⟨rfl, rfl, by decide, by decide⟩ rfl hl.1 (Nat.le_of_ble_eq_true rfl) rfl dX5_isText_3 (fun H locs hG => ?_)
  by_cases cz : v3 &&& 1 = v3
  · rw [if_pos cz] at h
    cases h
    exact hret _ _ _ _ hG dX5_isText_6 (nb cz)
  · rw [if_neg cz] at h
    cases h
set_option maxRecDepth 100000 in
set_option maxHeartbeats 4000000 in
theorem cc_X5_row {l : Launch} {D : va_G} {cI : ClassId} {tL : Nat} (ad : Nat → Nat) (deeds : Int32) (finding : Int32) (asked : Int32) (upper : Int64) (lower : Int64) (m_at : Int32) (wrong : Int32) (rowSize : Nat → Int32) (rows : Nat → Int32) (textSize : Nat → Int32) (texts : Nat → Int32) (spare : Nat → Int32) (now : Nat → Int32) (draft : Nat → Int32) (tried : Nat → Int32) (past : Nat → Int32) (kept : Nat → Int32) (keptPast : Nat → Int32) (keptDeeds : Nat → Int32) (findings : Nat → Int32) (worth : Nat → Int32) (x1 : Int32) (x2 : Int32) (r' : Int32) (finding' : Int32) (rowSize' : Nat → Int32) (rows' : Nat → Int32) (findings' : Nat → Int32) (h : fX5_row finding rowSize rows findings x1 x2 = some (r', finding', rowSize', rows', findings')) : Ci l D cI tL yX5_row cX5_row 4 .int rmX5_row (wX5 cI ad deeds finding asked upper lower m_at wrong rowSize rows textSize texts spare now draft tried past kept keptPast keptDeeds findings worth) [.ref (ad 0), .int x1, .int x2] r' (wX5 cI ad deeds finding' asked upper lower m_at wrong rowSize' rows' textSize texts spare now draft tried past kept keptPast keptDeeds findings' worth) := by
  refine Ci_of (own := RX5) (by decide) (Nat.le_of_ble_eq_true rfl) rfl ?_
  intro p e s m below meth c Q A AV hc hret ls hl hG
  obtain ⟨hx, hb, hml, hown, hts, hK, hA, hz⟩ := id hc
  have hl : lv_has ls 4 [(0, .ref (ad 0)), (1, .int x1), (2, .int x2)] := hl
  have hL_34 : ∀ (x1 : Int32) (finding : Int32) (rowSize : Nat → Int32) (findings : Nat → Int32) (x2 : Int32) (rows_o : Nat → Int32), (∀ (ls : Array Slot) (H : Heap) (locs : List Loc), lv_has ls 4 [(0, .ref (ad 0)), (2, .int x2)] → St D A s (wX5 cI ad deeds finding asked upper lower m_at wrong rowSize rows_o textSize texts spare now draft tried past kept keptPast keptDeeds findings worth) H locs → W p l e rmX5_row s m AV below meth c H locs 0 0 Q (F0 m 58 ls [])) → ∀ (n : Nat) (rows : Nat → Int32) (x3 : Int32), fX5_row_L34 x1 n rows x3 = some rows_o → ∀ (ls : Array Slot) (H : Heap) (locs : List Loc), lv_has ls 4 [(0, .ref (ad 0)), (1, .int x1), (2, .int x2), (3, .int x3)] → St D A s (wX5 cI ad deeds finding asked upper lower m_at wrong rowSize rows textSize texts spare now draft tried past kept keptPast keptDeeds findings worth) H locs → W p l e rmX5_row s m AV below meth c H locs 0 0 Q (F0 m 34 ls []) := by
    intro x1 finding rowSize findings x2 rows_o KE n
    induction n with
    | zero =>
      intro rows x3 h
      exact nomatch (show none = some _ from h)
    | succ n ih =>
      intro rows x3 h ls H locs hl hG
      have h : fX5_row_B34 x1 (fX5_row_L34 x1 n) rows x3 = some rows_o := h
      unfold fX5_row_B34 at h
      refine lv_iload_n hx hb dX5_row_34 rfl (lv_at hl 3 rfl) ?_
      refine lv_bipush (v := 40) hx hb dX5_row_35 (by decide) ?_
      refine lv_icmp_ge (tgt := 58) hx hb dX5_row_37 (by decide) (fun c37 => ?_) (fun c37 => ?_)
      · rw [if_pos c37] at h
        cases h
        exact KE _ _ _ (lv_sub hl [0, 2] rfl) hG
      · rw [if_neg c37] at h
        refine lv_aload_n hx hb dX5_row_40 rfl (lv_at hl 0 rfl) ?_
        refine x_get hc hG 0 rfl iX5 1 lX5_13 rfl dX5_row_41 ?_
        refine lv_bipush (v := 40) hx hb dX5_row_44 (by decide) ?_
        refine lv_iload_n hx hb dX5_row_46 rfl (lv_at hl 1 rfl) ?_
        refine lv_imul hx hb dX5_row_47 ?_
        refine lv_iload_n hx hb dX5_row_48 rfl (lv_at hl 3 rfl) ?_
        refine lv_iadd hx hb dX5_row_49 ?_
        refine lv_iconst (v := 0) hx hb dX5_row_50 (by decide) ?_
        obtain ⟨rows_51, e51, h⟩ := bd1_some h
        refine x_ast (ws' := (wX5 cI ad deeds finding asked upper lower m_at wrong rowSize rows_51 textSize texts spare now draft tried past kept keptPast keptDeeds findings worth)) hc hG 2 rfl e51 rfl dX5_row_51 (fun H locs hG => ?_)
        refine lv_iinc (v := (x3 + 1)) (lv' := [(3, .int (x3 + 1)), (0, .ref (ad 0)), (1, .int x1), (2, .int x2)]) hx hb dX5_row_52 hl (k := 3) rfl rfl (by decide) rfl (fun ls hl => ?_)
        refine lv_goto (tgt := 34) hx hb dX5_row_55 (by decide) ?_
        exact ih _ _ h _ _ _ (lv_sub hl [1, 2, 3, 0] rfl) hG
  unfold fX5_row at h
  refine lv_iload_n hx hb dX5_row_0 rfl (lv_at hl 1 rfl) ?_
  obtain ⟨v1, e1, h⟩ := bd1_some h
  refine x_si0 (rest := []) hc hG (cc_X5_isRow x1 v1 e1) lX5_67 ⟨rfl, rfl, by decide, by decide⟩ rfl hl.1 (Nat.le_of_ble_eq_true rfl) rfl dX5_row_1 (fun H locs hG => ?_)
  refine lv_if_eq (tgt := 13) hx hb dX5_row_4 (by decide) (fun c4 => ?_) (fun c4 => ?_)
  · rw [if_pos c4] at h
    refine lv_iconst (v := (-1)) hx hb dX5_row_13 (by decide) ?_
    cases h
    exact hret _ _ _ _ hG dX5_row_14 rfl
  · rw [if_neg c4] at h
    refine lv_iload_n hx hb dX5_row_7 rfl (lv_at hl 2 rfl) ?_
    refine lv_bipush (v := 40) hx hb dX5_row_8 (by decide) ?_
    refine lv_icmp_le (tgt := 15) hx hb dX5_row_10 (by decide) (fun c10 => ?_) (fun c10 => ?_)
    · rw [if_pos c10] at h
      refine lv_iload_n hx hb dX5_row_15 rfl (lv_at hl 2 rfl) ?_
      refine lv_if_ge (tgt := 25) hx hb dX5_row_16 (by decide) (fun c16 => ?_) (fun c16 => ?_)
      · rw [if_pos c16] at h
        refine lv_aload_n hx hb dX5_row_25 rfl (lv_at hl 0 rfl) ?_
        refine x_get hc hG 0 rfl iX5 0 lX5_7 rfl dX5_row_26 ?_
        refine lv_iload_n hx hb dX5_row_29 rfl (lv_at hl 1 rfl) ?_
        refine lv_iload_n hx hb dX5_row_30 rfl (lv_at hl 2 rfl) ?_
        obtain ⟨rowSize_31, e31, h⟩ := bd1_some h
        refine x_ast (ws' := (wX5 cI ad deeds finding asked upper lower m_at wrong rowSize_31 rows textSize texts spare now draft tried past kept keptPast keptDeeds findings worth)) hc hG 1 rfl e31 rfl dX5_row_31 (fun H locs hG => ?_)
        refine lv_iconst (v := 0) hx hb dX5_row_32 (by decide) ?_
        refine lv_istore_n (lv' := [(3, .int 0), (0, .ref (ad 0)), (1, .int x1), (2, .int x2)]) hx hb dX5_row_33 rfl hl (by decide) rfl (fun ls hl => ?_)
        obtain ⟨rows_L34, e34, h⟩ := bd1_some h
        refine hL_34 _ _ _ _ _ _ (fun ls H locs hl hG => ?_) _ _ _ e34 _ _ _ (lv_sub hl [1, 2, 3, 0] rfl) hG
        refine lv_iload_n hx hb dX5_row_58 rfl (lv_at hl 1 rfl) ?_
        cases h
        exact hret _ _ _ _ hG dX5_row_59 rfl
      · rw [if_neg c16] at h
        refine lv_aload_n hx hb dX5_row_19 rfl (lv_at hl 0 rfl) ?_
        refine lv_iconst (v := 5) hx hb dX5_row_20 (by decide) ?_
        obtain ⟨v21, finding_21, findings_21, e21, h⟩ := bd3_some h
        refine x_vi (rest := []) (ws' := (wX5 cI ad deeds finding_21 asked upper lower m_at wrong rowSize rows textSize texts spare now draft tried past kept keptPast keptDeeds findings_21 worth)) hc hG (cc_X5_found0 ad deeds finding asked upper lower m_at wrong rowSize rows textSize texts spare now draft tried past kept keptPast keptDeeds findings worth 5 v21 finding_21 findings_21 e21) [0, 1, 2, 3, 4, 5, 6, 7, 8, 9, 10, 11, 12, 13, 14] [] [0, 1, 2, 3, 4, 5, 6, 7, 8, 9, 10, 11, 12, 13, 14] rfl rfl rfl 0 rfl rfl lX5_71 ⟨rfl, rfl, by decide, by decide⟩ rfl hl.1 (Nat.le_of_ble_eq_true rfl) rfl dX5_row_21 (fun H locs hG => ?_)
        cases h
        exact hret _ _ _ _ hG dX5_row_24 rfl
    · rw [if_neg c10] at h
      refine lv_iconst (v := (-1)) hx hb dX5_row_13 (by decide) ?_
      cases h
      exact hret _ _ _ _ hG dX5_row_14 rfl
set_option maxRecDepth 100000 in
set_option maxHeartbeats 4000000 in
theorem cc_X5_lay {l : Launch} {D : va_G} {cI : ClassId} {tL : Nat} (ad : Nat → Nat) (deeds : Int32) (finding : Int32) (asked : Int32) (upper : Int64) (lower : Int64) (m_at : Int32) (wrong : Int32) (rowSize : Nat → Int32) (rows : Nat → Int32) (textSize : Nat → Int32) (texts : Nat → Int32) (spare : Nat → Int32) (now : Nat → Int32) (draft : Nat → Int32) (tried : Nat → Int32) (past : Nat → Int32) (kept : Nat → Int32) (keptPast : Nat → Int32) (keptDeeds : Nat → Int32) (findings : Nat → Int32) (worth : Nat → Int32) (x1 : Int32) (x2 : Int32) (x3 : Int32) (r' : Int32) (finding' : Int32) (asked' : Int32) (rows' : Nat → Int32) (findings' : Nat → Int32) (h : fX5_lay finding asked rowSize rows findings x1 x2 x3 = some (r', finding', asked', rows', findings')) : Ci l D cI tL yX5_lay cX5_lay 5 .int rmX5_lay (wX5 cI ad deeds finding asked upper lower m_at wrong rowSize rows textSize texts spare now draft tried past kept keptPast keptDeeds findings worth) [.ref (ad 0), .int x1, .int x2, .int x3] r' (wX5 cI ad deeds finding' asked' upper lower m_at wrong rowSize rows' textSize texts spare now draft tried past kept keptPast keptDeeds findings' worth) := by
  refine Ci_of (own := RX5) (by decide) (Nat.le_of_ble_eq_true rfl) rfl ?_
  intro p e s m below meth c Q A AV hc hret ls hl hG
  obtain ⟨hx, hb, hml, hown, hts, hK, hA, hz⟩ := id hc
  have hl : lv_has ls 5 [(0, .ref (ad 0)), (1, .int x1), (2, .int x2), (3, .int x3)] := hl
  unfold fX5_lay at h
  refine lv_iload_n hx hb dX5_lay_0 rfl (lv_at hl 1 rfl) ?_
  obtain ⟨v1, e1, h⟩ := bd1_some h
  refine x_si0 (rest := []) hc hG (cc_X5_isRow x1 v1 e1) lX5_67 ⟨rfl, rfl, by decide, by decide⟩ rfl hl.1 (Nat.le_of_ble_eq_true rfl) rfl dX5_lay_1 (fun H locs hG => ?_)
  refine lv_if_ne (tgt := 9) hx hb dX5_lay_4 (by decide) (fun c4 => ?_) (fun c4 => ?_)
  · rw [if_neg c4] at h
    refine lv_aload_n hx hb dX5_lay_9 rfl (lv_at hl 0 rfl) ?_
    refine x_get hc hG 0 rfl iX5 0 lX5_7 rfl dX5_lay_10 ?_
    refine lv_iload_n hx hb dX5_lay_13 rfl (lv_at hl 1 rfl) ?_
    obtain ⟨v14, e14, h⟩ := bd1_some h
    refine x_ald hc hG 1 rfl e14 dX5_lay_14 ?_
    refine lv_bipush (v := (-9)) hx hb dX5_lay_15 (by decide) ?_
    refine lv_icmp_ne (tgt := 26) hx hb dX5_lay_17 (by decide) (fun c17 => ?_) (fun c17 => ?_)
    · rw [if_neg c17] at h
      refine lv_iload_n hx hb dX5_lay_26 rfl (lv_at hl 2 rfl) ?_
      refine lv_iconst (v := 0) hx hb dX5_lay_27 (by decide) ?_
      refine lv_aload_n hx hb dX5_lay_28 rfl (lv_at hl 0 rfl) ?_
      refine x_get hc hG 0 rfl iX5 0 lX5_7 rfl dX5_lay_29 ?_
      refine lv_iload_n hx hb dX5_lay_32 rfl (lv_at hl 1 rfl) ?_
      obtain ⟨v33, e33, h⟩ := bd1_some h
      refine x_ald hc hG 1 rfl e33 dX5_lay_33 ?_
      refine lv_iconst (v := 1) hx hb dX5_lay_34 (by decide) ?_
      refine lv_isub hx hb dX5_lay_35 ?_
      obtain ⟨v36, e36, h⟩ := bd1_some h
      refine x_si0 (rest := []) hc hG (cc_X5_in0 x2 0 (v33 - 1) v36 e36) lX5_63 ⟨rfl, rfl, by decide, by decide⟩ rfl hl.1 (Nat.le_of_ble_eq_true rfl) rfl dX5_lay_36 (fun H locs hG => ?_)
      refine lv_if_ne (tgt := 48) hx hb dX5_lay_39 (by decide) (fun c39 => ?_) (fun c39 => ?_)
      · rw [if_neg c39] at h
        refine lv_aload_n hx hb dX5_lay_48 rfl (lv_at hl 0 rfl) ?_
        refine x_get hc hG 0 rfl iX5 1 lX5_13 rfl dX5_lay_49 ?_
        refine lv_bipush (v := 40) hx hb dX5_lay_52 (by decide) ?_
        refine lv_iload_n hx hb dX5_lay_54 rfl (lv_at hl 1 rfl) ?_
        refine lv_imul hx hb dX5_lay_55 ?_
        refine lv_iload_n hx hb dX5_lay_56 rfl (lv_at hl 2 rfl) ?_
        refine lv_iadd hx hb dX5_lay_57 ?_
        obtain ⟨v58, e58, h⟩ := bd1_some h
        refine x_ald hc hG 2 rfl e58 dX5_lay_58 ?_
        refine lv_istore (lv' := [(4, .int v58), (0, .ref (ad 0)), (1, .int x1), (2, .int x2), (3, .int x3)]) hx hb dX5_lay_59 hl (by decide) rfl (fun ls hl => ?_)
        refine lv_aload_n hx hb dX5_lay_61 rfl (lv_at hl 1 rfl) ?_
        refine x_get hc hG 0 rfl iX5 1 lX5_13 rfl dX5_lay_62 ?_
        refine lv_bipush (v := 40) hx hb dX5_lay_65 (by decide) ?_
        refine lv_iload_n hx hb dX5_lay_67 rfl (lv_at hl 2 rfl) ?_
        refine lv_imul hx hb dX5_lay_68 ?_
        refine lv_iload_n hx hb dX5_lay_69 rfl (lv_at hl 3 rfl) ?_
        refine lv_iadd hx hb dX5_lay_70 ?_
        refine lv_iload_n hx hb dX5_lay_71 rfl (lv_at hl 4 rfl) ?_
        obtain ⟨rows_72, e72, h⟩ := bd1_some h
        refine x_ast (ws' := (wX5 cI ad deeds finding asked upper lower m_at wrong rowSize rows_72 textSize texts spare now draft tried past kept keptPast keptDeeds findings worth)) hc hG 2 rfl e72 rfl dX5_lay_72 (fun H locs hG => ?_)
        refine lv_aload_n hx hb dX5_lay_73 rfl (lv_at hl 1 rfl) ?_
        refine lv_iload hx hb dX5_lay_74 (lv_at hl 0 rfl) ?_
        obtain ⟨v76, asked_76, e76, h⟩ := bd2_some h
        refine x_vi (rest := []) (ws' := (wX5 cI ad deeds finding asked_76 upper lower m_at wrong rowSize rows_72 textSize texts spare now draft tried past kept keptPast keptDeeds findings worth)) hc hG (cc_X5_tells ad deeds finding asked upper lower m_at wrong rowSize rows_72 textSize texts spare now draft tried past kept keptPast keptDeeds findings worth v58 v76 asked_76 e76) [0, 1, 2, 3, 4, 5, 6, 7, 8, 9, 10, 11, 12, 13, 14] [] [0, 1, 2, 3, 4, 5, 6, 7, 8, 9, 10, 11, 12, 13, 14] rfl rfl rfl 0 rfl rfl lX5_75 ⟨rfl, rfl, by decide, by decide⟩ rfl hl.1 (Nat.le_of_ble_eq_true rfl) rfl dX5_lay_76 (fun H locs hG => ?_)
        cases h
        exact hret _ _ _ _ hG dX5_lay_79 rfl
      · rw [if_pos c39] at h
        refine lv_aload_n hx hb dX5_lay_42 rfl (lv_at hl 0 rfl) ?_
        refine lv_iconst (v := 2) hx hb dX5_lay_43 (by decide) ?_
        obtain ⟨v44, finding_44, findings_44, e44, h⟩ := bd3_some h
        refine x_vi (rest := []) (ws' := (wX5 cI ad deeds finding_44 asked upper lower m_at wrong rowSize rows textSize texts spare now draft tried past kept keptPast keptDeeds findings_44 worth)) hc hG (cc_X5_found0 ad deeds finding asked upper lower m_at wrong rowSize rows textSize texts spare now draft tried past kept keptPast keptDeeds findings worth 2 v44 finding_44 findings_44 e44) [0, 1, 2, 3, 4, 5, 6, 7, 8, 9, 10, 11, 12, 13, 14] [] [0, 1, 2, 3, 4, 5, 6, 7, 8, 9, 10, 11, 12, 13, 14] rfl rfl rfl 0 rfl rfl lX5_71 ⟨rfl, rfl, by decide, by decide⟩ rfl hl.1 (Nat.le_of_ble_eq_true rfl) rfl dX5_lay_44 (fun H locs hG => ?_)
        cases h
        exact hret _ _ _ _ hG dX5_lay_47 rfl
    · rw [if_pos c17] at h
      refine lv_aload_n hx hb dX5_lay_20 rfl (lv_at hl 0 rfl) ?_
      refine lv_iconst (v := 1) hx hb dX5_lay_21 (by decide) ?_
      obtain ⟨v22, finding_22, findings_22, e22, h⟩ := bd3_some h
      refine x_vi (rest := []) (ws' := (wX5 cI ad deeds finding_22 asked upper lower m_at wrong rowSize rows textSize texts spare now draft tried past kept keptPast keptDeeds findings_22 worth)) hc hG (cc_X5_found0 ad deeds finding asked upper lower m_at wrong rowSize rows textSize texts spare now draft tried past kept keptPast keptDeeds findings worth 1 v22 finding_22 findings_22 e22) [0, 1, 2, 3, 4, 5, 6, 7, 8, 9, 10, 11, 12, 13, 14] [] [0, 1, 2, 3, 4, 5, 6, 7, 8, 9, 10, 11, 12, 13, 14] rfl rfl rfl 0 rfl rfl lX5_71 ⟨rfl, rfl, by decide, by decide⟩ rfl hl.1 (Nat.le_of_ble_eq_true rfl) rfl dX5_lay_22 (fun H locs hG => ?_)
      cases h
      exact hret _ _ _ _ hG dX5_lay_25 rfl
  · rw [if_pos c4] at h
    refine lv_iconst (v := (-1)) hx hb dX5_lay_7 (by decide) ?_
    cases h
    exact hret _ _ _ _ hG dX5_lay_8 rfl
set_option maxRecDepth 100000 in
set_option maxHeartbeats 4000000 in
theorem cc_X5_at {l : Launch} {D : va_G} {cI : ClassId} {tL : Nat} (ad : Nat → Nat) (deeds : Int32) (finding : Int32) (asked : Int32) (upper : Int64) (lower : Int64) (m_at : Int32) (wrong : Int32) (rowSize : Nat → Int32) (rows : Nat → Int32) (textSize : Nat → Int32) (texts : Nat → Int32) (spare : Nat → Int32) (now : Nat → Int32) (draft : Nat → Int32) (tried : Nat → Int32) (past : Nat → Int32) (kept : Nat → Int32) (keptPast : Nat → Int32) (keptDeeds : Nat → Int32) (findings : Nat → Int32) (worth : Nat → Int32) (x1 : Int32) (x2 : Int32) (r' : Int32) (finding' : Int32) (asked' : Int32) (findings' : Nat → Int32) (h : fX5_at finding asked rowSize rows findings x1 x2 = some (r', finding', asked', findings')) : Ci l D cI tL yX5_at cX5_at 3 .int rmX5_at (wX5 cI ad deeds finding asked upper lower m_at wrong rowSize rows textSize texts spare now draft tried past kept keptPast keptDeeds findings worth) [.ref (ad 0), .int x1, .int x2] r' (wX5 cI ad deeds finding' asked' upper lower m_at wrong rowSize rows textSize texts spare now draft tried past kept keptPast keptDeeds findings' worth) := by
  refine Ci_of (own := RX5) (by decide) (Nat.le_of_ble_eq_true rfl) rfl ?_
  intro p e s m below meth c Q A AV hc hret ls hl hG
  obtain ⟨hx, hb, hml, hown, hts, hK, hA, hz⟩ := id hc
  have hl : lv_has ls 3 [(0, .ref (ad 0)), (1, .int x1), (2, .int x2)] := hl
  unfold fX5_at at h
  refine lv_iload_n hx hb dX5_at_0 rfl (lv_at hl 1 rfl) ?_
  obtain ⟨v1, e1, h⟩ := bd1_some h
  refine x_si0 (rest := []) hc hG (cc_X5_isRow x1 v1 e1) lX5_67 ⟨rfl, rfl, by decide, by decide⟩ rfl hl.1 (Nat.le_of_ble_eq_true rfl) rfl dX5_at_1 (fun H locs hG => ?_)
  refine lv_if_ne (tgt := 9) hx hb dX5_at_4 (by decide) (fun c4 => ?_) (fun c4 => ?_)
  · rw [if_neg c4] at h
    refine lv_aload_n hx hb dX5_at_9 rfl (lv_at hl 0 rfl) ?_
    refine x_get hc hG 0 rfl iX5 0 lX5_7 rfl dX5_at_10 ?_
    refine lv_iload_n hx hb dX5_at_13 rfl (lv_at hl 1 rfl) ?_
    obtain ⟨v14, e14, h⟩ := bd1_some h
    refine x_ald hc hG 1 rfl e14 dX5_at_14 ?_
    refine lv_bipush (v := (-9)) hx hb dX5_at_15 (by decide) ?_
    refine lv_icmp_ne (tgt := 26) hx hb dX5_at_17 (by decide) (fun c17 => ?_) (fun c17 => ?_)
    · rw [if_neg c17] at h
      refine lv_iload_n hx hb dX5_at_26 rfl (lv_at hl 2 rfl) ?_
      refine lv_iconst (v := 0) hx hb dX5_at_27 (by decide) ?_
      refine lv_aload_n hx hb dX5_at_28 rfl (lv_at hl 0 rfl) ?_
      refine x_get hc hG 0 rfl iX5 0 lX5_7 rfl dX5_at_29 ?_
      refine lv_iload_n hx hb dX5_at_32 rfl (lv_at hl 1 rfl) ?_
      obtain ⟨v33, e33, h⟩ := bd1_some h
      refine x_ald hc hG 1 rfl e33 dX5_at_33 ?_
      refine lv_iconst (v := 1) hx hb dX5_at_34 (by decide) ?_
      refine lv_isub hx hb dX5_at_35 ?_
      obtain ⟨v36, e36, h⟩ := bd1_some h
      refine x_si0 (rest := []) hc hG (cc_X5_in0 x2 0 (v33 - 1) v36 e36) lX5_63 ⟨rfl, rfl, by decide, by decide⟩ rfl hl.1 (Nat.le_of_ble_eq_true rfl) rfl dX5_at_36 (fun H locs hG => ?_)
      refine lv_if_ne (tgt := 48) hx hb dX5_at_39 (by decide) (fun c39 => ?_) (fun c39 => ?_)
      · rw [if_neg c39] at h
        refine lv_aload_n hx hb dX5_at_48 rfl (lv_at hl 0 rfl) ?_
        refine lv_aload_n hx hb dX5_at_49 rfl (lv_at hl 0 rfl) ?_
        refine x_get hc hG 0 rfl iX5 1 lX5_13 rfl dX5_at_50 ?_
        refine lv_bipush (v := 40) hx hb dX5_at_53 (by decide) ?_
        refine lv_iload_n hx hb dX5_at_55 rfl (lv_at hl 1 rfl) ?_
        refine lv_imul hx hb dX5_at_56 ?_
        refine lv_iload_n hx hb dX5_at_57 rfl (lv_at hl 2 rfl) ?_
        refine lv_iadd hx hb dX5_at_58 ?_
        obtain ⟨v59, e59, h⟩ := bd1_some h
        refine x_ald hc hG 2 rfl e59 dX5_at_59 ?_
        obtain ⟨v60, asked_60, e60, h⟩ := bd2_some h
        refine x_vi (rest := []) (ws' := (wX5 cI ad deeds finding asked_60 upper lower m_at wrong rowSize rows textSize texts spare now draft tried past kept keptPast keptDeeds findings worth)) hc hG (cc_X5_tells ad deeds finding asked upper lower m_at wrong rowSize rows textSize texts spare now draft tried past kept keptPast keptDeeds findings worth v59 v60 asked_60 e60) [0, 1, 2, 3, 4, 5, 6, 7, 8, 9, 10, 11, 12, 13, 14] [] [0, 1, 2, 3, 4, 5, 6, 7, 8, 9, 10, 11, 12, 13, 14] rfl rfl rfl 0 rfl rfl lX5_75 ⟨rfl, rfl, by decide, by decide⟩ rfl hl.1 (Nat.le_of_ble_eq_true rfl) rfl dX5_at_60 (fun H locs hG => ?_)
        cases h
        exact hret _ _ _ _ hG dX5_at_63 rfl
      · rw [if_pos c39] at h
        refine lv_aload_n hx hb dX5_at_42 rfl (lv_at hl 0 rfl) ?_
        refine lv_iconst (v := 2) hx hb dX5_at_43 (by decide) ?_
        obtain ⟨v44, finding_44, findings_44, e44, h⟩ := bd3_some h
        refine x_vi (rest := []) (ws' := (wX5 cI ad deeds finding_44 asked upper lower m_at wrong rowSize rows textSize texts spare now draft tried past kept keptPast keptDeeds findings_44 worth)) hc hG (cc_X5_found0 ad deeds finding asked upper lower m_at wrong rowSize rows textSize texts spare now draft tried past kept keptPast keptDeeds findings worth 2 v44 finding_44 findings_44 e44) [0, 1, 2, 3, 4, 5, 6, 7, 8, 9, 10, 11, 12, 13, 14] [] [0, 1, 2, 3, 4, 5, 6, 7, 8, 9, 10, 11, 12, 13, 14] rfl rfl rfl 0 rfl rfl lX5_71 ⟨rfl, rfl, by decide, by decide⟩ rfl hl.1 (Nat.le_of_ble_eq_true rfl) rfl dX5_at_44 (fun H locs hG => ?_)
        cases h
        exact hret _ _ _ _ hG dX5_at_47 rfl
    · rw [if_pos c17] at h
      refine lv_aload_n hx hb dX5_at_20 rfl (lv_at hl 0 rfl) ?_
      refine lv_iconst (v := 1) hx hb dX5_at_21 (by decide) ?_
      obtain ⟨v22, finding_22, findings_22, e22, h⟩ := bd3_some h
      refine x_vi (rest := []) (ws' := (wX5 cI ad deeds finding_22 asked upper lower m_at wrong rowSize rows textSize texts spare now draft tried past kept keptPast keptDeeds findings_22 worth)) hc hG (cc_X5_found0 ad deeds finding asked upper lower m_at wrong rowSize rows textSize texts spare now draft tried past kept keptPast keptDeeds findings worth 1 v22 finding_22 findings_22 e22) [0, 1, 2, 3, 4, 5, 6, 7, 8, 9, 10, 11, 12, 13, 14] [] [0, 1, 2, 3, 4, 5, 6, 7, 8, 9, 10, 11, 12, 13, 14] rfl rfl rfl 0 rfl rfl lX5_71 ⟨rfl, rfl, by decide, by decide⟩ rfl hl.1 (Nat.le_of_ble_eq_true rfl) rfl dX5_at_22 (fun H locs hG => ?_)
      cases h
      exact hret _ _ _ _ hG dX5_at_25 rfl
  · rw [if_pos c4] at h
    refine lv_iconst (v := (-1)) hx hb dX5_at_7 (by decide) ?_
    cases h
    exact hret _ _ _ _ hG dX5_at_8 rfl
set_option maxRecDepth 100000 in
set_option maxHeartbeats 4000000 in
theorem cc_X5_tear {l : Launch} {D : va_G} {cI : ClassId} {tL : Nat} (ad : Nat → Nat) (deeds : Int32) (finding : Int32) (asked : Int32) (upper : Int64) (lower : Int64) (m_at : Int32) (wrong : Int32) (rowSize : Nat → Int32) (rows : Nat → Int32) (textSize : Nat → Int32) (texts : Nat → Int32) (spare : Nat → Int32) (now : Nat → Int32) (draft : Nat → Int32) (tried : Nat → Int32) (past : Nat → Int32) (kept : Nat → Int32) (keptPast : Nat → Int32) (keptDeeds : Nat → Int32) (findings : Nat → Int32) (worth : Nat → Int32) (x1 : Int32) (r' : Int32) (finding' : Int32) (rowSize' : Nat → Int32) (findings' : Nat → Int32) (h : fX5_tear finding rowSize findings x1 = some (r', finding', rowSize', findings')) : Ci l D cI tL yX5_tear cX5_tear 2 .int rmX5_tear (wX5 cI ad deeds finding asked upper lower m_at wrong rowSize rows textSize texts spare now draft tried past kept keptPast keptDeeds findings worth) [.ref (ad 0), .int x1] r' (wX5 cI ad deeds finding' asked upper lower m_at wrong rowSize' rows textSize texts spare now draft tried past kept keptPast keptDeeds findings' worth) := by
  refine Ci_of (own := RX5) (by decide) (Nat.le_of_ble_eq_true rfl) rfl ?_
  intro p e s m below meth c Q A AV hc hret ls hl hG
  obtain ⟨hx, hb, hml, hown, hts, hK, hA, hz⟩ := id hc
  have hl : lv_has ls 2 [(0, .ref (ad 0)), (1, .int x1)] := hl
  unfold fX5_tear at h
  refine lv_iload_n hx hb dX5_tear_0 rfl (lv_at hl 1 rfl) ?_
  obtain ⟨v1, e1, h⟩ := bd1_some h
  refine x_si0 (rest := []) hc hG (cc_X5_isRow x1 v1 e1) lX5_67 ⟨rfl, rfl, by decide, by decide⟩ rfl hl.1 (Nat.le_of_ble_eq_true rfl) rfl dX5_tear_1 (fun H locs hG => ?_)
  refine lv_if_ne (tgt := 9) hx hb dX5_tear_4 (by decide) (fun c4 => ?_) (fun c4 => ?_)
  · rw [if_neg c4] at h
    refine lv_aload_n hx hb dX5_tear_9 rfl (lv_at hl 0 rfl) ?_
    refine x_get hc hG 0 rfl iX5 0 lX5_7 rfl dX5_tear_10 ?_
    refine lv_iload_n hx hb dX5_tear_13 rfl (lv_at hl 1 rfl) ?_
    obtain ⟨v14, e14, h⟩ := bd1_some h
    refine x_ald hc hG 1 rfl e14 dX5_tear_14 ?_
    refine lv_bipush (v := (-9)) hx hb dX5_tear_15 (by decide) ?_
    refine lv_icmp_ne (tgt := 26) hx hb dX5_tear_17 (by decide) (fun c17 => ?_) (fun c17 => ?_)
    · rw [if_neg c17] at h
      refine lv_aload_n hx hb dX5_tear_26 rfl (lv_at hl 0 rfl) ?_
      refine x_get hc hG 0 rfl iX5 0 lX5_7 rfl dX5_tear_27 ?_
      refine lv_iload_n hx hb dX5_tear_30 rfl (lv_at hl 1 rfl) ?_
      refine lv_bipush (v := (-9)) hx hb dX5_tear_31 (by decide) ?_
      obtain ⟨rowSize_33, e33, h⟩ := bd1_some h
      refine x_ast (ws' := (wX5 cI ad deeds finding asked upper lower m_at wrong rowSize_33 rows textSize texts spare now draft tried past kept keptPast keptDeeds findings worth)) hc hG 1 rfl e33 rfl dX5_tear_33 (fun H locs hG => ?_)
      refine lv_iconst (v := 1) hx hb dX5_tear_34 (by decide) ?_
      cases h
      exact hret _ _ _ _ hG dX5_tear_35 rfl
    · rw [if_pos c17] at h
      refine lv_aload_n hx hb dX5_tear_20 rfl (lv_at hl 0 rfl) ?_
      refine lv_iconst (v := 1) hx hb dX5_tear_21 (by decide) ?_
      obtain ⟨v22, finding_22, findings_22, e22, h⟩ := bd3_some h
      refine x_vi (rest := []) (ws' := (wX5 cI ad deeds finding_22 asked upper lower m_at wrong rowSize rows textSize texts spare now draft tried past kept keptPast keptDeeds findings_22 worth)) hc hG (cc_X5_found0 ad deeds finding asked upper lower m_at wrong rowSize rows textSize texts spare now draft tried past kept keptPast keptDeeds findings worth 1 v22 finding_22 findings_22 e22) [0, 1, 2, 3, 4, 5, 6, 7, 8, 9, 10, 11, 12, 13, 14] [] [0, 1, 2, 3, 4, 5, 6, 7, 8, 9, 10, 11, 12, 13, 14] rfl rfl rfl 0 rfl rfl lX5_71 ⟨rfl, rfl, by decide, by decide⟩ rfl hl.1 (Nat.le_of_ble_eq_true rfl) rfl dX5_tear_22 (fun H locs hG => ?_)
      cases h
      exact hret _ _ _ _ hG dX5_tear_25 rfl
  · rw [if_pos c4] at h
    refine lv_iconst (v := (-1)) hx hb dX5_tear_7 (by decide) ?_
    cases h
    exact hret _ _ _ _ hG dX5_tear_8 rfl
set_option maxRecDepth 100000 in
set_option maxHeartbeats 4000000 in
theorem cc_X5_hasPart {l : Launch} {D : va_G} {cI : ClassId} {tL : Nat} (ad : Nat → Nat) (deeds : Int32) (finding : Int32) (asked : Int32) (upper : Int64) (lower : Int64) (m_at : Int32) (wrong : Int32) (rowSize : Nat → Int32) (rows : Nat → Int32) (textSize : Nat → Int32) (texts : Nat → Int32) (spare : Nat → Int32) (now : Nat → Int32) (draft : Nat → Int32) (tried : Nat → Int32) (past : Nat → Int32) (kept : Nat → Int32) (keptPast : Nat → Int32) (keptDeeds : Nat → Int32) (findings : Nat → Int32) (worth : Nat → Int32) (x1 : Int32) (x2 : Int32) (x3 : Int32) (r' : Int32) (h : fX5_hasPart rowSize x1 x2 x3 = some r') : Ci l D cI tL yX5_hasPart cX5_hasPart 4 .boolean rmX5_hasPart (wX5 cI ad deeds finding asked upper lower m_at wrong rowSize rows textSize texts spare now draft tried past kept keptPast keptDeeds findings worth) [.ref (ad 0), .int x1, .int x2, .int x3] r' (wX5 cI ad deeds finding asked upper lower m_at wrong rowSize rows textSize texts spare now draft tried past kept keptPast keptDeeds findings worth) := by
  refine Ci_of (own := RX5) (by decide) (Nat.le_of_ble_eq_true rfl) rfl ?_
  intro p e s m below meth c Q A AV hc hret ls hl hG
  obtain ⟨hx, hb, hml, hown, hts, hK, hA, hz⟩ := id hc
  have hl : lv_has ls 4 [(0, .ref (ad 0)), (1, .int x1), (2, .int x2), (3, .int x3)] := hl
  unfold fX5_hasPart at h
  refine lv_iload_n hx hb dX5_hasPart_0 rfl (lv_at hl 2 rfl) ?_
  refine lv_iconst (v := 0) hx hb dX5_hasPart_1 (by decide) ?_
  refine lv_aload_n hx hb dX5_hasPart_2 rfl (lv_at hl 0 rfl) ?_
  refine x_get hc hG 0 rfl iX5 0 lX5_7 rfl dX5_hasPart_3 ?_
  refine lv_iload_n hx hb dX5_hasPart_6 rfl (lv_at hl 1 rfl) ?_
  obtain ⟨v7, e7, h⟩ := bd1_some h
  refine x_ald hc hG 1 rfl e7 dX5_hasPart_7 ?_
  obtain ⟨v8, e8, h⟩ := bd1_some h
  refine x_si0 (rest := []) hc hG (cc_X5_in0 x2 0 v7 v8 e8) lX5_63 ⟨rfl, rfl, by decide, by decide⟩ rfl hl.1 (Nat.le_of_ble_eq_true rfl) rfl dX5_hasPart_8 (fun H locs hG => ?_)
  refine lv_if_eq (tgt := 30) hx hb dX5_hasPart_11 (by decide) (fun c11 => ?_) (fun c11 => ?_)
  · rw [if_pos c11] at h
    refine lv_iconst (v := 0) hx hb dX5_hasPart_30 (by decide) ?_
    cases h
    exact hret _ _ _ _ hG dX5_hasPart_31 rfl
  · rw [if_neg c11] at h
    refine lv_iload_n hx hb dX5_hasPart_14 rfl (lv_at hl 3 rfl) ?_
    refine lv_aload_n hx hb dX5_hasPart_15 rfl (lv_at hl 0 rfl) ?_
    refine x_get hc hG 0 rfl iX5 0 lX5_7 rfl dX5_hasPart_16 ?_
    refine lv_iload_n hx hb dX5_hasPart_19 rfl (lv_at hl 1 rfl) ?_
    obtain ⟨v20, e20, h⟩ := bd1_some h
    refine x_ald hc hG 1 rfl e20 dX5_hasPart_20 ?_
    refine lv_iload_n hx hb dX5_hasPart_21 rfl (lv_at hl 2 rfl) ?_
    refine lv_isub hx hb dX5_hasPart_22 ?_
    refine lv_icmp_gt (tgt := 30) hx hb dX5_hasPart_23 (by decide) (fun c23 => ?_) (fun c23 => ?_)
    · rw [if_pos c23] at h
      refine lv_iconst (v := 0) hx hb dX5_hasPart_30 (by decide) ?_
      cases h
      exact hret _ _ _ _ hG dX5_hasPart_31 rfl
    · rw [if_neg c23] at h
      refine lv_iconst (v := 1) hx hb dX5_hasPart_26 (by decide) ?_
      refine lv_goto (tgt := 31) hx hb dX5_hasPart_27 (by decide) ?_
      cases h
      exact hret _ _ _ _ hG dX5_hasPart_31 rfl
set_option maxRecDepth 100000 in
set_option maxHeartbeats 4000000 in
theorem cc_X5_copy {l : Launch} {D : va_G} {cI : ClassId} {tL : Nat} (ad : Nat → Nat) (deeds : Int32) (finding : Int32) (asked : Int32) (upper : Int64) (lower : Int64) (m_at : Int32) (wrong : Int32) (rowSize : Nat → Int32) (rows : Nat → Int32) (textSize : Nat → Int32) (texts : Nat → Int32) (spare : Nat → Int32) (now : Nat → Int32) (draft : Nat → Int32) (tried : Nat → Int32) (past : Nat → Int32) (kept : Nat → Int32) (keptPast : Nat → Int32) (keptDeeds : Nat → Int32) (findings : Nat → Int32) (worth : Nat → Int32) (x1 : Int32) (x2 : Int32) (x3 : Int32) (x4 : Int32) (x5 : Int32) (r' : Int32) (finding' : Int32) (rows' : Nat → Int32) (spare' : Nat → Int32) (findings' : Nat → Int32) (h : fX5_copy finding rowSize rows spare findings x1 x2 x3 x4 x5 = some (r', finding', rows', spare', findings')) : Ci l D cI tL yX5_copy cX5_copy 7 .int rmX5_copy (wX5 cI ad deeds finding asked upper lower m_at wrong rowSize rows textSize texts spare now draft tried past kept keptPast keptDeeds findings worth) [.ref (ad 0), .int x1, .int x2, .int x3, .int x4, .int x5] r' (wX5 cI ad deeds finding' asked upper lower m_at wrong rowSize rows' textSize texts spare' now draft tried past kept keptPast keptDeeds findings' worth) := by
  refine Ci_of (own := RX5) (by decide) (Nat.le_of_ble_eq_true rfl) rfl ?_
  intro p e s m below meth c Q A AV hc hret ls hl hG
  obtain ⟨hx, hb, hml, hown, hts, hK, hA, hz⟩ := id hc
  have hl : lv_has ls 7 [(0, .ref (ad 0)), (1, .int x1), (2, .int x2), (3, .int x3), (4, .int x4), (5, .int x5)] := hl
  have hL_87 : ∀ (rows : Nat → Int32) (x1 : Int32) (x2 : Int32) (x5 : Int32) (finding : Int32) (findings : Nat → Int32) (x3 : Int32) (x4 : Int32) (spare_o : Nat → Int32), (∀ (ls : Array Slot) (H : Heap) (locs : List Loc), lv_has ls 7 [(0, .ref (ad 0)), (3, .int x3), (4, .int x4), (5, .int x5)] → St D A s (wX5 cI ad deeds finding asked upper lower m_at wrong rowSize rows textSize texts spare_o now draft tried past kept keptPast keptDeeds findings worth) H locs → W p l e rmX5_copy s m AV below meth c H locs 0 0 Q (F0 m 121 ls [])) → ∀ (n : Nat) (spare : Nat → Int32) (x6 : Int32), fX5_copy_L87 rows x1 x2 x5 n spare x6 = some spare_o → ∀ (ls : Array Slot) (H : Heap) (locs : List Loc), lv_has ls 7 [(0, .ref (ad 0)), (1, .int x1), (2, .int x2), (3, .int x3), (4, .int x4), (5, .int x5), (6, .int x6)] → St D A s (wX5 cI ad deeds finding asked upper lower m_at wrong rowSize rows textSize texts spare now draft tried past kept keptPast keptDeeds findings worth) H locs → W p l e rmX5_copy s m AV below meth c H locs 0 0 Q (F0 m 87 ls []) := by
    intro rows x1 x2 x5 finding findings x3 x4 spare_o KE n
    induction n with
    | zero =>
      intro spare x6 h
      exact nomatch (show none = some _ from h)
    | succ n ih =>
      intro spare x6 h ls H locs hl hG
      have h : fX5_copy_B87 rows x1 x2 x5 (fX5_copy_L87 rows x1 x2 x5 n) spare x6 = some spare_o := h
      unfold fX5_copy_B87 at h
      refine lv_iload hx hb dX5_copy_87 (lv_at hl 6 rfl) ?_
      refine lv_iload hx hb dX5_copy_89 (lv_at hl 5 rfl) ?_
      refine lv_icmp_ge (tgt := 121) hx hb dX5_copy_91 (by decide) (fun c91 => ?_) (fun c91 => ?_)
      · rw [if_pos c91] at h
        cases h
        exact KE _ _ _ (lv_sub hl [0, 3, 4, 5] rfl) hG
      · rw [if_neg c91] at h
        refine lv_aload_n hx hb dX5_copy_94 rfl (lv_at hl 0 rfl) ?_
        refine x_get hc hG 0 rfl iX5 4 lX5_22 rfl dX5_copy_95 ?_
        refine lv_iload hx hb dX5_copy_98 (lv_at hl 6 rfl) ?_
        refine lv_aload_n hx hb dX5_copy_100 rfl (lv_at hl 0 rfl) ?_
        refine x_get hc hG 0 rfl iX5 1 lX5_13 rfl dX5_copy_101 ?_
        refine lv_bipush (v := 40) hx hb dX5_copy_104 (by decide) ?_
        refine lv_iload_n hx hb dX5_copy_106 rfl (lv_at hl 1 rfl) ?_
        refine lv_imul hx hb dX5_copy_107 ?_
        refine lv_iload_n hx hb dX5_copy_108 rfl (lv_at hl 2 rfl) ?_
        refine lv_iadd hx hb dX5_copy_109 ?_
        refine lv_iload hx hb dX5_copy_110 (lv_at hl 6 rfl) ?_
        refine lv_iadd hx hb dX5_copy_112 ?_
        obtain ⟨v113, e113, h⟩ := bd1_some h
        refine x_ald hc hG 2 rfl e113 dX5_copy_113 ?_
        obtain ⟨spare_114, e114, h⟩ := bd1_some h
        refine x_ast (ws' := (wX5 cI ad deeds finding asked upper lower m_at wrong rowSize rows textSize texts spare_114 now draft tried past kept keptPast keptDeeds findings worth)) hc hG 5 rfl e114 rfl dX5_copy_114 (fun H locs hG => ?_)
        refine lv_iinc (v := (x6 + 1)) (lv' := [(6, .int (x6 + 1)), (0, .ref (ad 0)), (1, .int x1), (2, .int x2), (3, .int x3), (4, .int x4), (5, .int x5)]) hx hb dX5_copy_115 hl (k := 6) rfl rfl (by decide) rfl (fun ls hl => ?_)
        refine lv_goto (tgt := 87) hx hb dX5_copy_118 (by decide) ?_
        exact ih _ _ h _ _ _ (lv_sub hl [1, 2, 3, 4, 5, 6, 0] rfl) hG
  have hL_124 : ∀ (spare : Nat → Int32) (x3 : Int32) (x4 : Int32) (x5 : Int32) (finding : Int32) (findings : Nat → Int32) (rows_o : Nat → Int32), (∀ (ls : Array Slot) (H : Heap) (locs : List Loc), lv_has ls 7 [(0, .ref (ad 0))] → St D A s (wX5 cI ad deeds finding asked upper lower m_at wrong rowSize rows_o textSize texts spare now draft tried past kept keptPast keptDeeds findings worth) H locs → W p l e rmX5_copy s m AV below meth c H locs 0 0 Q (F0 m 159 ls [])) → ∀ (n : Nat) (rows : Nat → Int32) (x6 : Int32), fX5_copy_L124 spare x3 x4 x5 n rows x6 = some rows_o → ∀ (ls : Array Slot) (H : Heap) (locs : List Loc), lv_has ls 7 [(0, .ref (ad 0)), (3, .int x3), (4, .int x4), (5, .int x5), (6, .int x6)] → St D A s (wX5 cI ad deeds finding asked upper lower m_at wrong rowSize rows textSize texts spare now draft tried past kept keptPast keptDeeds findings worth) H locs → W p l e rmX5_copy s m AV below meth c H locs 0 0 Q (F0 m 124 ls []) := by
    intro spare x3 x4 x5 finding findings rows_o KE n
    induction n with
    | zero =>
      intro rows x6 h
      exact nomatch (show none = some _ from h)
    | succ n ih =>
      intro rows x6 h ls H locs hl hG
      have h : fX5_copy_B124 spare x3 x4 x5 (fX5_copy_L124 spare x3 x4 x5 n) rows x6 = some rows_o := h
      unfold fX5_copy_B124 at h
      refine lv_iload hx hb dX5_copy_124 (lv_at hl 4 rfl) ?_
      refine lv_iload hx hb dX5_copy_126 (lv_at hl 3 rfl) ?_
      refine lv_icmp_ge (tgt := 159) hx hb dX5_copy_128 (by decide) (fun c128 => ?_) (fun c128 => ?_)
      · rw [if_pos c128] at h
        cases h
        exact KE _ _ _ (lv_sub hl [0] rfl) hG
      · rw [if_neg c128] at h
        refine lv_aload_n hx hb dX5_copy_131 rfl (lv_at hl 0 rfl) ?_
        refine x_get hc hG 0 rfl iX5 1 lX5_13 rfl dX5_copy_132 ?_
        refine lv_bipush (v := 40) hx hb dX5_copy_135 (by decide) ?_
        refine lv_iload_n hx hb dX5_copy_137 rfl (lv_at hl 1 rfl) ?_
        refine lv_imul hx hb dX5_copy_138 ?_
        refine lv_iload hx hb dX5_copy_139 (lv_at hl 2 rfl) ?_
        refine lv_iadd hx hb dX5_copy_141 ?_
        refine lv_iload hx hb dX5_copy_142 (lv_at hl 4 rfl) ?_
        refine lv_iadd hx hb dX5_copy_144 ?_
        refine lv_aload_n hx hb dX5_copy_145 rfl (lv_at hl 0 rfl) ?_
        refine x_get hc hG 0 rfl iX5 4 lX5_22 rfl dX5_copy_146 ?_
        refine lv_iload hx hb dX5_copy_149 (lv_at hl 4 rfl) ?_
        obtain ⟨v151, e151, h⟩ := bd1_some h
        refine x_ald hc hG 5 rfl e151 dX5_copy_151 ?_
        obtain ⟨rows_152, e152, h⟩ := bd1_some h
        refine x_ast (ws' := (wX5 cI ad deeds finding asked upper lower m_at wrong rowSize rows_152 textSize texts spare now draft tried past kept keptPast keptDeeds findings worth)) hc hG 2 rfl e152 rfl dX5_copy_152 (fun H locs hG => ?_)
        refine lv_iinc (v := (x6 + 1)) (lv' := [(6, .int (x6 + 1)), (0, .ref (ad 0)), (3, .int x3), (4, .int x4), (5, .int x5)]) hx hb dX5_copy_153 hl (k := 4) rfl rfl (by decide) rfl (fun ls hl => ?_)
        refine lv_goto (tgt := 124) hx hb dX5_copy_156 (by decide) ?_
        exact ih _ _ h _ _ _ (lv_sub hl [1, 2, 3, 4, 0] rfl) hG
  have hj_78 : ∀ (rows : Nat → Int32) (spare : Nat → Int32) (findings : Nat → Int32) (finding : Int32), fX5_copy_j78 rows spare findings = some (r', finding', rows', spare', findings') → ∀ (ls : Array Slot) (H : Heap) (locs : List Loc), lv_has ls 7 [(0, .ref (ad 0))] → St D A s (wX5 cI ad deeds finding asked upper lower m_at wrong rowSize rows textSize texts spare now draft tried past kept keptPast keptDeeds findings worth) H locs → W p l e rmX5_copy s m AV below meth c H locs 0 0 Q (F0 m 78 ls []) := by
    intro rows spare findings finding h ls H locs hl hG
    unfold fX5_copy_j78 at h
    refine lv_aload_n hx hb dX5_copy_78 rfl (lv_at hl 0 rfl) ?_
    refine lv_iconst (v := 2) hx hb dX5_copy_79 (by decide) ?_
    obtain ⟨v80, finding_80, findings_80, e80, h⟩ := bd3_some h
    refine x_vi (rest := []) (ws' := (wX5 cI ad deeds finding_80 asked upper lower m_at wrong rowSize rows textSize texts spare now draft tried past kept keptPast keptDeeds findings_80 worth)) hc hG (cc_X5_found0 ad deeds finding asked upper lower m_at wrong rowSize rows textSize texts spare now draft tried past kept keptPast keptDeeds findings worth 2 v80 finding_80 findings_80 e80) [0, 1, 2, 3, 4, 5, 6, 7, 8, 9, 10, 11, 12, 13, 14] [] [0, 1, 2, 3, 4, 5, 6, 7, 8, 9, 10, 11, 12, 13, 14] rfl rfl rfl 0 rfl rfl lX5_71 ⟨rfl, rfl, by decide, by decide⟩ rfl hl.1 (Nat.le_of_ble_eq_true rfl) rfl dX5_copy_80 (fun H locs hG => ?_)
    cases h
    exact hret _ _ _ _ hG dX5_copy_83 rfl
  have hj_49 : ∀ (rows : Nat → Int32) (spare : Nat → Int32) (findings : Nat → Int32) (finding : Int32), fX5_copy_j49 rows spare findings = some (r', finding', rows', spare', findings') → ∀ (ls : Array Slot) (H : Heap) (locs : List Loc), lv_has ls 7 [(0, .ref (ad 0))] → St D A s (wX5 cI ad deeds finding asked upper lower m_at wrong rowSize rows textSize texts spare now draft tried past kept keptPast keptDeeds findings worth) H locs → W p l e rmX5_copy s m AV below meth c H locs 0 0 Q (F0 m 49 ls []) := by
    intro rows spare findings finding h ls H locs hl hG
    unfold fX5_copy_j49 at h
    refine lv_aload_n hx hb dX5_copy_49 rfl (lv_at hl 0 rfl) ?_
    refine lv_iconst (v := 1) hx hb dX5_copy_50 (by decide) ?_
    obtain ⟨v51, finding_51, findings_51, e51, h⟩ := bd3_some h
    refine x_vi (rest := []) (ws' := (wX5 cI ad deeds finding_51 asked upper lower m_at wrong rowSize rows textSize texts spare now draft tried past kept keptPast keptDeeds findings_51 worth)) hc hG (cc_X5_found0 ad deeds finding asked upper lower m_at wrong rowSize rows textSize texts spare now draft tried past kept keptPast keptDeeds findings worth 1 v51 finding_51 findings_51 e51) [0, 1, 2, 3, 4, 5, 6, 7, 8, 9, 10, 11, 12, 13, 14] [] [0, 1, 2, 3, 4, 5, 6, 7, 8, 9, 10, 11, 12, 13, 14] rfl rfl rfl 0 rfl rfl lX5_71 ⟨rfl, rfl, by decide, by decide⟩ rfl hl.1 (Nat.le_of_ble_eq_true rfl) rfl dX5_copy_51 (fun H locs hG => ?_)
    cases h
    exact hret _ _ _ _ hG dX5_copy_54 rfl
  unfold fX5_copy at h
  refine lv_iload_n hx hb dX5_copy_0 rfl (lv_at hl 1 rfl) ?_
  obtain ⟨v1, e1, h⟩ := bd1_some h
  refine x_si0 (rest := []) hc hG (cc_X5_isRow x1 v1 e1) lX5_67 ⟨rfl, rfl, by decide, by decide⟩ rfl hl.1 (Nat.le_of_ble_eq_true rfl) rfl dX5_copy_1 (fun H locs hG => ?_)
  refine lv_if_eq (tgt := 14) hx hb dX5_copy_4 (by decide) (fun c4 => ?_) (fun c4 => ?_)
  · rw [if_pos c4] at h
    refine lv_iconst (v := (-1)) hx hb dX5_copy_14 (by decide) ?_
    cases h
    exact hret _ _ _ _ hG dX5_copy_15 rfl
  · rw [if_neg c4] at h
    refine lv_iload_n hx hb dX5_copy_7 rfl (lv_at hl 3 rfl) ?_
    obtain ⟨v8, e8, h⟩ := bd1_some h
    refine x_si0 (rest := []) hc hG (cc_X5_isRow x3 v8 e8) lX5_67 ⟨rfl, rfl, by decide, by decide⟩ rfl hl.1 (Nat.le_of_ble_eq_true rfl) rfl dX5_copy_8 (fun H locs hG => ?_)
    refine lv_if_ne (tgt := 16) hx hb dX5_copy_11 (by decide) (fun c11 => ?_) (fun c11 => ?_)
    · rw [if_neg c11] at h
      refine lv_iload hx hb dX5_copy_16 (lv_at hl 5 rfl) ?_
      refine lv_if_ge (tgt := 27) hx hb dX5_copy_18 (by decide) (fun c18 => ?_) (fun c18 => ?_)
      · rw [if_pos c18] at h
        refine lv_aload_n hx hb dX5_copy_27 rfl (lv_at hl 0 rfl) ?_
        refine x_get hc hG 0 rfl iX5 0 lX5_7 rfl dX5_copy_28 ?_
        refine lv_iload_n hx hb dX5_copy_31 rfl (lv_at hl 1 rfl) ?_
        obtain ⟨v32, e32, h⟩ := bd1_some h
        refine x_ald hc hG 1 rfl e32 dX5_copy_32 ?_
        refine lv_bipush (v := (-9)) hx hb dX5_copy_33 (by decide) ?_
        refine lv_icmp_eq (tgt := 49) hx hb dX5_copy_35 (by decide) (fun c35 => ?_) (fun c35 => ?_)
        · rw [if_pos c35] at h
          exact hj_49 _ _ _ _ h _ _ _ (lv_sub hl [0] rfl) hG
        · rw [if_neg c35] at h
          refine lv_aload_n hx hb dX5_copy_38 rfl (lv_at hl 0 rfl) ?_
          refine x_get hc hG 0 rfl iX5 0 lX5_7 rfl dX5_copy_39 ?_
          refine lv_iload_n hx hb dX5_copy_42 rfl (lv_at hl 3 rfl) ?_
          obtain ⟨v43, e43, h⟩ := bd1_some h
          refine x_ald hc hG 1 rfl e43 dX5_copy_43 ?_
          refine lv_bipush (v := (-9)) hx hb dX5_copy_44 (by decide) ?_
          refine lv_icmp_ne (tgt := 55) hx hb dX5_copy_46 (by decide) (fun c46 => ?_) (fun c46 => ?_)
          · rw [if_neg c46] at h
            refine lv_aload_n hx hb dX5_copy_55 rfl (lv_at hl 0 rfl) ?_
            refine lv_iload_n hx hb dX5_copy_56 rfl (lv_at hl 1 rfl) ?_
            refine lv_iload_n hx hb dX5_copy_57 rfl (lv_at hl 2 rfl) ?_
            refine lv_iload hx hb dX5_copy_58 (lv_at hl 5 rfl) ?_
            obtain ⟨v60, e60, h⟩ := bd1_some h
            refine x_vi (rest := []) (ws' := (wX5 cI ad deeds finding asked upper lower m_at wrong rowSize rows textSize texts spare now draft tried past kept keptPast keptDeeds findings worth)) hc hG (cc_X5_hasPart ad deeds finding asked upper lower m_at wrong rowSize rows textSize texts spare now draft tried past kept keptPast keptDeeds findings worth x1 x2 x5 v60 e60) [0, 1, 2, 3, 4, 5, 6, 7, 8, 9, 10, 11, 12, 13, 14] [] [0, 1, 2, 3, 4, 5, 6, 7, 8, 9, 10, 11, 12, 13, 14] rfl rfl rfl 0 rfl rfl lX5_78 ⟨rfl, rfl, by decide, by decide⟩ rfl hl.1 (Nat.le_of_ble_eq_true rfl) rfl dX5_copy_60 (fun H locs hG => ?_)
            refine lv_if_eq (tgt := 78) hx hb dX5_copy_63 (by decide) (fun c63 => ?_) (fun c63 => ?_)
            · rw [if_pos c63] at h
              exact hj_78 _ _ _ _ h _ _ _ (lv_sub hl [0] rfl) hG
            · rw [if_neg c63] at h
              refine lv_aload_n hx hb dX5_copy_66 rfl (lv_at hl 0 rfl) ?_
              refine lv_iload_n hx hb dX5_copy_67 rfl (lv_at hl 3 rfl) ?_
              refine lv_iload hx hb dX5_copy_68 (lv_at hl 4 rfl) ?_
              refine lv_iload hx hb dX5_copy_70 (lv_at hl 5 rfl) ?_
              obtain ⟨v72, e72, h⟩ := bd1_some h
              refine x_vi (rest := []) (ws' := (wX5 cI ad deeds finding asked upper lower m_at wrong rowSize rows textSize texts spare now draft tried past kept keptPast keptDeeds findings worth)) hc hG (cc_X5_hasPart ad deeds finding asked upper lower m_at wrong rowSize rows textSize texts spare now draft tried past kept keptPast keptDeeds findings worth x3 x4 x5 v72 e72) [0, 1, 2, 3, 4, 5, 6, 7, 8, 9, 10, 11, 12, 13, 14] [] [0, 1, 2, 3, 4, 5, 6, 7, 8, 9, 10, 11, 12, 13, 14] rfl rfl rfl 0 rfl rfl lX5_78 ⟨rfl, rfl, by decide, by decide⟩ rfl hl.1 (Nat.le_of_ble_eq_true rfl) rfl dX5_copy_72 (fun H locs hG => ?_)
              refine lv_if_ne (tgt := 84) hx hb dX5_copy_75 (by decide) (fun c75 => ?_) (fun c75 => ?_)
              · rw [if_neg c75] at h
                refine lv_iconst (v := 0) hx hb dX5_copy_84 (by decide) ?_
                refine lv_istore (lv' := [(6, .int 0), (0, .ref (ad 0)), (1, .int x1), (2, .int x2), (3, .int x3), (4, .int x4), (5, .int x5)]) hx hb dX5_copy_85 hl (by decide) rfl (fun ls hl => ?_)
                obtain ⟨spare_L87, e87, h⟩ := bd1_some h
                refine hL_87 _ _ _ _ _ _ _ _ _ (fun ls H locs hl hG => ?_) _ _ _ e87 _ _ _ (lv_sub hl [1, 2, 3, 4, 5, 6, 0] rfl) hG
                refine lv_iconst (v := 0) hx hb dX5_copy_121 (by decide) ?_
                refine lv_istore (lv' := [(6, .int 0), (0, .ref (ad 0)), (3, .int x3), (4, .int x4), (5, .int x5)]) hx hb dX5_copy_122 hl (by decide) rfl (fun ls hl => ?_)
                obtain ⟨rows_L124, e124, h⟩ := bd1_some h
                refine hL_124 _ _ _ _ _ _ _ (fun ls H locs hl hG => ?_) _ _ _ e124 _ _ _ (lv_sub hl [1, 2, 3, 4, 0] rfl) hG
                refine lv_iconst (v := 1) hx hb dX5_copy_159 (by decide) ?_
                cases h
                exact hret _ _ _ _ hG dX5_copy_160 rfl
              · rw [if_pos c75] at h
                exact hj_78 _ _ _ _ h _ _ _ (lv_sub hl [0] rfl) hG
          · rw [if_pos c46] at h
            exact hj_49 _ _ _ _ h _ _ _ (lv_sub hl [0] rfl) hG
      · rw [if_neg c18] at h
        refine lv_aload_n hx hb dX5_copy_21 rfl (lv_at hl 0 rfl) ?_
        refine lv_iconst (v := 5) hx hb dX5_copy_22 (by decide) ?_
        obtain ⟨v23, finding_23, findings_23, e23, h⟩ := bd3_some h
        refine x_vi (rest := []) (ws' := (wX5 cI ad deeds finding_23 asked upper lower m_at wrong rowSize rows textSize texts spare now draft tried past kept keptPast keptDeeds findings_23 worth)) hc hG (cc_X5_found0 ad deeds finding asked upper lower m_at wrong rowSize rows textSize texts spare now draft tried past kept keptPast keptDeeds findings worth 5 v23 finding_23 findings_23 e23) [0, 1, 2, 3, 4, 5, 6, 7, 8, 9, 10, 11, 12, 13, 14] [] [0, 1, 2, 3, 4, 5, 6, 7, 8, 9, 10, 11, 12, 13, 14] rfl rfl rfl 0 rfl rfl lX5_71 ⟨rfl, rfl, by decide, by decide⟩ rfl hl.1 (Nat.le_of_ble_eq_true rfl) rfl dX5_copy_23 (fun H locs hG => ?_)
        cases h
        exact hret _ _ _ _ hG dX5_copy_26 rfl
    · rw [if_pos c11] at h
      refine lv_iconst (v := (-1)) hx hb dX5_copy_14 (by decide) ?_
      cases h
      exact hret _ _ _ _ hG dX5_copy_15 rfl
set_option maxRecDepth 100000 in
set_option maxHeartbeats 4000000 in
theorem cc_X5_mean {l : Launch} {D : va_G} {cI : ClassId} {tL : Nat} (ad : Nat → Nat) (deeds : Int32) (finding : Int32) (asked : Int32) (upper : Int64) (lower : Int64) (m_at : Int32) (wrong : Int32) (rowSize : Nat → Int32) (rows : Nat → Int32) (textSize : Nat → Int32) (texts : Nat → Int32) (spare : Nat → Int32) (now : Nat → Int32) (draft : Nat → Int32) (tried : Nat → Int32) (past : Nat → Int32) (kept : Nat → Int32) (keptPast : Nat → Int32) (keptDeeds : Nat → Int32) (findings : Nat → Int32) (worth : Nat → Int32) (x1 : Int32) (r' : Int32) (finding' : Int32) (asked' : Int32) (findings' : Nat → Int32) (h : fX5_mean finding asked rowSize rows findings x1 = some (r', finding', asked', findings')) : Ci l D cI tL yX5_mean cX5_mean 5 .int rmX5_mean (wX5 cI ad deeds finding asked upper lower m_at wrong rowSize rows textSize texts spare now draft tried past kept keptPast keptDeeds findings worth) [.ref (ad 0), .int x1] r' (wX5 cI ad deeds finding' asked' upper lower m_at wrong rowSize rows textSize texts spare now draft tried past kept keptPast keptDeeds findings' worth) := by
  refine Ci_of (own := RX5) (by decide) (Nat.le_of_ble_eq_true rfl) rfl ?_
  intro p e s m below meth c Q A AV hc hret ls hl hG
  obtain ⟨hx, hb, hml, hown, hts, hK, hA, hz⟩ := id hc
  have hl : lv_has ls 5 [(0, .ref (ad 0)), (1, .int x1)] := hl
  have hL_46 : ∀ (x1 : Int32) (finding : Int32) (asked : Int32) (findings : Nat → Int32) (x2_o : Int64), (∀ (ls : Array Slot) (H : Heap) (locs : List Loc), lv_has ls 5 [(0, .ref (ad 0)), (1, .int x1), (2, .long x2_o)] → St D A s (wX5 cI ad deeds finding asked upper lower m_at wrong rowSize rows textSize texts spare now draft tried past kept keptPast keptDeeds findings worth) H locs → W p l e rmX5_mean s m AV below meth c H locs 0 0 Q (F0 m 79 ls [])) → ∀ (n : Nat) (x2 : Int64) (x4 : Int32), fX5_mean_L46 rowSize rows x1 n x2 x4 = some x2_o → ∀ (ls : Array Slot) (H : Heap) (locs : List Loc), lv_has ls 5 [(0, .ref (ad 0)), (1, .int x1), (2, .long x2), (4, .int x4)] → St D A s (wX5 cI ad deeds finding asked upper lower m_at wrong rowSize rows textSize texts spare now draft tried past kept keptPast keptDeeds findings worth) H locs → W p l e rmX5_mean s m AV below meth c H locs 0 0 Q (F0 m 46 ls []) := by
    intro x1 finding asked findings x2_o KE n
    induction n with
    | zero =>
      intro x2 x4 h
      exact nomatch (show none = some _ from h)
    | succ n ih =>
      intro x2 x4 h ls H locs hl hG
      have h : fX5_mean_B46 rowSize rows x1 (fX5_mean_L46 rowSize rows x1 n) x2 x4 = some x2_o := h
      unfold fX5_mean_B46 at h
      refine lv_iload hx hb dX5_mean_46 (lv_at hl 3 rfl) ?_
      refine lv_aload_n hx hb dX5_mean_48 rfl (lv_at hl 0 rfl) ?_
      refine x_get hc hG 0 rfl iX5 0 lX5_7 rfl dX5_mean_49 ?_
      refine lv_iload_n hx hb dX5_mean_52 rfl (lv_at hl 1 rfl) ?_
      obtain ⟨v53, e53, h⟩ := bd1_some h
      refine x_ald hc hG 1 rfl e53 dX5_mean_53 ?_
      refine lv_icmp_ge (tgt := 79) hx hb dX5_mean_54 (by decide) (fun c54 => ?_) (fun c54 => ?_)
      · rw [if_pos c54] at h
        cases h
        exact KE _ _ _ (lv_sub hl [0, 1, 2] rfl) hG
      · rw [if_neg c54] at h
        refine lv_lload_n hx hb dX5_mean_57 rfl (lv_at hl 2 rfl) ?_
        refine lv_aload_n hx hb dX5_mean_58 rfl (lv_at hl 0 rfl) ?_
        refine x_get hc hG 0 rfl iX5 1 lX5_13 rfl dX5_mean_59 ?_
        refine lv_bipush (v := 40) hx hb dX5_mean_62 (by decide) ?_
        refine lv_iload_n hx hb dX5_mean_64 rfl (lv_at hl 1 rfl) ?_
        refine lv_imul hx hb dX5_mean_65 ?_
        refine lv_iload hx hb dX5_mean_66 (lv_at hl 3 rfl) ?_
        refine lv_iadd hx hb dX5_mean_68 ?_
        obtain ⟨v69, e69, h⟩ := bd1_some h
        refine x_ald hc hG 2 rfl e69 dX5_mean_69 ?_
        refine lv_i2l hx hb dX5_mean_70 rfl ?_
        refine lv_ladd hx hb dX5_mean_71 ?_
        refine lv_lstore_n (lv' := [(2, .long (x2 + (Int32.toInt64 v69))), (0, .ref (ad 0)), (1, .int x1), (4, .int x4)]) hx hb dX5_mean_72 rfl hl (by decide) rfl (fun ls hl => ?_)
        refine lv_iinc (v := (x4 + 1)) (lv' := [(4, .int (x4 + 1)), (2, .long (x2 + (Int32.toInt64 v69))), (0, .ref (ad 0)), (1, .int x1)]) hx hb dX5_mean_73 hl (k := 3) rfl rfl (by decide) rfl (fun ls hl => ?_)
        refine lv_goto (tgt := 46) hx hb dX5_mean_76 (by decide) ?_
        exact ih _ _ h _ _ _ (lv_sub hl [2, 3, 1, 0] rfl) hG
  unfold fX5_mean at h
  refine lv_iload_n hx hb dX5_mean_0 rfl (lv_at hl 1 rfl) ?_
  obtain ⟨v1, e1, h⟩ := bd1_some h
  refine x_si0 (rest := []) hc hG (cc_X5_isRow x1 v1 e1) lX5_67 ⟨rfl, rfl, by decide, by decide⟩ rfl hl.1 (Nat.le_of_ble_eq_true rfl) rfl dX5_mean_1 (fun H locs hG => ?_)
  refine lv_if_ne (tgt := 9) hx hb dX5_mean_4 (by decide) (fun c4 => ?_) (fun c4 => ?_)
  · rw [if_neg c4] at h
    refine lv_aload_n hx hb dX5_mean_9 rfl (lv_at hl 0 rfl) ?_
    refine x_get hc hG 0 rfl iX5 0 lX5_7 rfl dX5_mean_10 ?_
    refine lv_iload_n hx hb dX5_mean_13 rfl (lv_at hl 1 rfl) ?_
    obtain ⟨v14, e14, h⟩ := bd1_some h
    refine x_ald hc hG 1 rfl e14 dX5_mean_14 ?_
    refine lv_bipush (v := (-9)) hx hb dX5_mean_15 (by decide) ?_
    refine lv_icmp_ne (tgt := 26) hx hb dX5_mean_17 (by decide) (fun c17 => ?_) (fun c17 => ?_)
    · rw [if_neg c17] at h
      refine lv_aload_n hx hb dX5_mean_26 rfl (lv_at hl 0 rfl) ?_
      refine x_get hc hG 0 rfl iX5 0 lX5_7 rfl dX5_mean_27 ?_
      refine lv_iload_n hx hb dX5_mean_30 rfl (lv_at hl 1 rfl) ?_
      obtain ⟨v31, e31, h⟩ := bd1_some h
      refine x_ald hc hG 1 rfl e31 dX5_mean_31 ?_
      refine lv_if_ne (tgt := 41) hx hb dX5_mean_32 (by decide) (fun c32 => ?_) (fun c32 => ?_)
      · rw [if_neg c32] at h
        refine lv_lconst (v := 0) hx hb dX5_mean_41 (by decide) ?_
        refine lv_lstore_n (lv' := [(2, .long 0), (0, .ref (ad 0)), (1, .int x1)]) hx hb dX5_mean_42 rfl hl (by decide) rfl (fun ls hl => ?_)
        refine lv_iconst (v := 0) hx hb dX5_mean_43 (by decide) ?_
        refine lv_istore (lv' := [(4, .int 0), (2, .long 0), (0, .ref (ad 0)), (1, .int x1)]) hx hb dX5_mean_44 hl (by decide) rfl (fun ls hl => ?_)
        obtain ⟨x2_L46, e46, h⟩ := bd1_some h
        refine hL_46 _ _ _ _ _ (fun ls H locs hl hG => ?_) _ _ _ e46 _ _ _ (lv_sub hl [2, 3, 1, 0] rfl) hG
        refine lv_aload_n hx hb dX5_mean_79 rfl (lv_at hl 0 rfl) ?_
        refine lv_lload_n hx hb dX5_mean_80 rfl (lv_at hl 2 rfl) ?_
        refine lv_aload_n hx hb dX5_mean_81 rfl (lv_at hl 0 rfl) ?_
        refine x_get hc hG 0 rfl iX5 0 lX5_7 rfl dX5_mean_82 ?_
        refine lv_iload_n hx hb dX5_mean_85 rfl (lv_at hl 1 rfl) ?_
        obtain ⟨v86, e86, h⟩ := bd1_some h
        refine x_ald hc hG 1 rfl e86 dX5_mean_86 ?_
        refine lv_i2l hx hb dX5_mean_87 rfl ?_
        by_cases c88 : (Int32.toInt64 v86) = 0
        · rw [if_pos c88] at h
          cases h
        · rw [if_neg c88] at h
          refine lv_ldiv hx hb dX5_mean_88 c88 ?_
          refine lv_l2i hx hb dX5_mean_89 rfl ?_
          obtain ⟨v90, asked_90, e90, h⟩ := bd2_some h
          refine x_vi (rest := []) (ws' := (wX5 cI ad deeds finding asked_90 upper lower m_at wrong rowSize rows textSize texts spare now draft tried past kept keptPast keptDeeds findings worth)) hc hG (cc_X5_tells ad deeds finding asked upper lower m_at wrong rowSize rows textSize texts spare now draft tried past kept keptPast keptDeeds findings worth (Int64.toInt32 (x2_L46 / (Int32.toInt64 v86))) v90 asked_90 e90) [0, 1, 2, 3, 4, 5, 6, 7, 8, 9, 10, 11, 12, 13, 14] [] [0, 1, 2, 3, 4, 5, 6, 7, 8, 9, 10, 11, 12, 13, 14] rfl rfl rfl 0 rfl rfl lX5_75 ⟨rfl, rfl, by decide, by decide⟩ rfl hl.1 (Nat.le_of_ble_eq_true rfl) rfl dX5_mean_90 (fun H locs hG => ?_)
          cases h
          exact hret _ _ _ _ hG dX5_mean_93 rfl
      · rw [if_pos c32] at h
        refine lv_aload_n hx hb dX5_mean_35 rfl (lv_at hl 0 rfl) ?_
        refine lv_iconst (v := 4) hx hb dX5_mean_36 (by decide) ?_
        obtain ⟨v37, finding_37, findings_37, e37, h⟩ := bd3_some h
        refine x_vi (rest := []) (ws' := (wX5 cI ad deeds finding_37 asked upper lower m_at wrong rowSize rows textSize texts spare now draft tried past kept keptPast keptDeeds findings_37 worth)) hc hG (cc_X5_found0 ad deeds finding asked upper lower m_at wrong rowSize rows textSize texts spare now draft tried past kept keptPast keptDeeds findings worth 4 v37 finding_37 findings_37 e37) [0, 1, 2, 3, 4, 5, 6, 7, 8, 9, 10, 11, 12, 13, 14] [] [0, 1, 2, 3, 4, 5, 6, 7, 8, 9, 10, 11, 12, 13, 14] rfl rfl rfl 0 rfl rfl lX5_71 ⟨rfl, rfl, by decide, by decide⟩ rfl hl.1 (Nat.le_of_ble_eq_true rfl) rfl dX5_mean_37 (fun H locs hG => ?_)
        cases h
        exact hret _ _ _ _ hG dX5_mean_40 rfl
    · rw [if_pos c17] at h
      refine lv_aload_n hx hb dX5_mean_20 rfl (lv_at hl 0 rfl) ?_
      refine lv_iconst (v := 1) hx hb dX5_mean_21 (by decide) ?_
      obtain ⟨v22, finding_22, findings_22, e22, h⟩ := bd3_some h
      refine x_vi (rest := []) (ws' := (wX5 cI ad deeds finding_22 asked upper lower m_at wrong rowSize rows textSize texts spare now draft tried past kept keptPast keptDeeds findings_22 worth)) hc hG (cc_X5_found0 ad deeds finding asked upper lower m_at wrong rowSize rows textSize texts spare now draft tried past kept keptPast keptDeeds findings worth 1 v22 finding_22 findings_22 e22) [0, 1, 2, 3, 4, 5, 6, 7, 8, 9, 10, 11, 12, 13, 14] [] [0, 1, 2, 3, 4, 5, 6, 7, 8, 9, 10, 11, 12, 13, 14] rfl rfl rfl 0 rfl rfl lX5_71 ⟨rfl, rfl, by decide, by decide⟩ rfl hl.1 (Nat.le_of_ble_eq_true rfl) rfl dX5_mean_22 (fun H locs hG => ?_)
      cases h
      exact hret _ _ _ _ hG dX5_mean_25 rfl
  · rw [if_pos c4] at h
    refine lv_iconst (v := (-1)) hx hb dX5_mean_7 (by decide) ?_
    cases h
    exact hret _ _ _ _ hG dX5_mean_8 rfl
set_option maxRecDepth 100000 in
set_option maxHeartbeats 4000000 in
theorem cc_X5_text {l : Launch} {D : va_G} {cI : ClassId} {tL : Nat} (ad : Nat → Nat) (deeds : Int32) (finding : Int32) (asked : Int32) (upper : Int64) (lower : Int64) (m_at : Int32) (wrong : Int32) (rowSize : Nat → Int32) (rows : Nat → Int32) (textSize : Nat → Int32) (texts : Nat → Int32) (spare : Nat → Int32) (now : Nat → Int32) (draft : Nat → Int32) (tried : Nat → Int32) (past : Nat → Int32) (kept : Nat → Int32) (keptPast : Nat → Int32) (keptDeeds : Nat → Int32) (findings : Nat → Int32) (worth : Nat → Int32) (x1 : Int32) (x2 : Int32) (r' : Int32) (finding' : Int32) (textSize' : Nat → Int32) (texts' : Nat → Int32) (findings' : Nat → Int32) (h : fX5_text finding textSize texts findings x1 x2 = some (r', finding', textSize', texts', findings')) : Ci l D cI tL yX5_text cX5_text 4 .int rmX5_text (wX5 cI ad deeds finding asked upper lower m_at wrong rowSize rows textSize texts spare now draft tried past kept keptPast keptDeeds findings worth) [.ref (ad 0), .int x1, .int x2] r' (wX5 cI ad deeds finding' asked upper lower m_at wrong rowSize rows textSize' texts' spare now draft tried past kept keptPast keptDeeds findings' worth) := by
  refine Ci_of (own := RX5) (by decide) (Nat.le_of_ble_eq_true rfl) rfl ?_
  intro p e s m below meth c Q A AV hc hret ls hl hG
  obtain ⟨hx, hb, hml, hown, hts, hK, hA, hz⟩ := id hc
  have hl : lv_has ls 4 [(0, .ref (ad 0)), (1, .int x1), (2, .int x2)] := hl
  have hL_34 : ∀ (x1 : Int32) (finding : Int32) (textSize : Nat → Int32) (findings : Nat → Int32) (x2 : Int32) (texts_o : Nat → Int32), (∀ (ls : Array Slot) (H : Heap) (locs : List Loc), lv_has ls 4 [(0, .ref (ad 0)), (2, .int x2)] → St D A s (wX5 cI ad deeds finding asked upper lower m_at wrong rowSize rows textSize texts_o spare now draft tried past kept keptPast keptDeeds findings worth) H locs → W p l e rmX5_text s m AV below meth c H locs 0 0 Q (F0 m 59 ls [])) → ∀ (n : Nat) (texts : Nat → Int32) (x3 : Int32), fX5_text_L34 x1 n texts x3 = some texts_o → ∀ (ls : Array Slot) (H : Heap) (locs : List Loc), lv_has ls 4 [(0, .ref (ad 0)), (1, .int x1), (2, .int x2), (3, .int x3)] → St D A s (wX5 cI ad deeds finding asked upper lower m_at wrong rowSize rows textSize texts spare now draft tried past kept keptPast keptDeeds findings worth) H locs → W p l e rmX5_text s m AV below meth c H locs 0 0 Q (F0 m 34 ls []) := by
    intro x1 finding textSize findings x2 texts_o KE n
    induction n with
    | zero =>
      intro texts x3 h
      exact nomatch (show none = some _ from h)
    | succ n ih =>
      intro texts x3 h ls H locs hl hG
      have h : fX5_text_B34 x1 (fX5_text_L34 x1 n) texts x3 = some texts_o := h
      unfold fX5_text_B34 at h
      refine lv_iload_n hx hb dX5_text_34 rfl (lv_at hl 3 rfl) ?_
      refine lv_bipush (v := 60) hx hb dX5_text_35 (by decide) ?_
      refine lv_icmp_ge (tgt := 59) hx hb dX5_text_37 (by decide) (fun c37 => ?_) (fun c37 => ?_)
      · rw [if_pos c37] at h
        cases h
        exact KE _ _ _ (lv_sub hl [0, 2] rfl) hG
      · rw [if_neg c37] at h
        refine lv_aload_n hx hb dX5_text_40 rfl (lv_at hl 0 rfl) ?_
        refine x_get hc hG 0 rfl iX5 3 lX5_19 rfl dX5_text_41 ?_
        refine lv_bipush (v := 60) hx hb dX5_text_44 (by decide) ?_
        refine lv_iload_n hx hb dX5_text_46 rfl (lv_at hl 1 rfl) ?_
        refine lv_imul hx hb dX5_text_47 ?_
        refine lv_iload_n hx hb dX5_text_48 rfl (lv_at hl 3 rfl) ?_
        refine lv_iadd hx hb dX5_text_49 ?_
        refine lv_bipush (v := 32) hx hb dX5_text_50 (by decide) ?_
        obtain ⟨texts_52, e52, h⟩ := bd1_some h
        refine x_ast (ws' := (wX5 cI ad deeds finding asked upper lower m_at wrong rowSize rows textSize texts_52 spare now draft tried past kept keptPast keptDeeds findings worth)) hc hG 4 rfl e52 rfl dX5_text_52 (fun H locs hG => ?_)
        refine lv_iinc (v := (x3 + 1)) (lv' := [(3, .int (x3 + 1)), (0, .ref (ad 0)), (1, .int x1), (2, .int x2)]) hx hb dX5_text_53 hl (k := 3) rfl rfl (by decide) rfl (fun ls hl => ?_)
        refine lv_goto (tgt := 34) hx hb dX5_text_56 (by decide) ?_
        exact ih _ _ h _ _ _ (lv_sub hl [1, 2, 3, 0] rfl) hG
  unfold fX5_text at h
  refine lv_iload_n hx hb dX5_text_0 rfl (lv_at hl 1 rfl) ?_
  obtain ⟨v1, e1, h⟩ := bd1_some h
  refine x_si0 (rest := []) hc hG (cc_X5_isText x1 v1 e1) lX5_81 ⟨rfl, rfl, by decide, by decide⟩ rfl hl.1 (Nat.le_of_ble_eq_true rfl) rfl dX5_text_1 (fun H locs hG => ?_)
  refine lv_if_eq (tgt := 13) hx hb dX5_text_4 (by decide) (fun c4 => ?_) (fun c4 => ?_)
  · rw [if_pos c4] at h
    refine lv_iconst (v := (-1)) hx hb dX5_text_13 (by decide) ?_
    cases h
    exact hret _ _ _ _ hG dX5_text_14 rfl
  · rw [if_neg c4] at h
    refine lv_iload_n hx hb dX5_text_7 rfl (lv_at hl 2 rfl) ?_
    refine lv_bipush (v := 60) hx hb dX5_text_8 (by decide) ?_
    refine lv_icmp_le (tgt := 15) hx hb dX5_text_10 (by decide) (fun c10 => ?_) (fun c10 => ?_)
    · rw [if_pos c10] at h
      refine lv_iload_n hx hb dX5_text_15 rfl (lv_at hl 2 rfl) ?_
      refine lv_if_ge (tgt := 25) hx hb dX5_text_16 (by decide) (fun c16 => ?_) (fun c16 => ?_)
      · rw [if_pos c16] at h
        refine lv_aload_n hx hb dX5_text_25 rfl (lv_at hl 0 rfl) ?_
        refine x_get hc hG 0 rfl iX5 2 lX5_16 rfl dX5_text_26 ?_
        refine lv_iload_n hx hb dX5_text_29 rfl (lv_at hl 1 rfl) ?_
        refine lv_iload_n hx hb dX5_text_30 rfl (lv_at hl 2 rfl) ?_
        obtain ⟨textSize_31, e31, h⟩ := bd1_some h
        refine x_ast (ws' := (wX5 cI ad deeds finding asked upper lower m_at wrong rowSize rows textSize_31 texts spare now draft tried past kept keptPast keptDeeds findings worth)) hc hG 3 rfl e31 rfl dX5_text_31 (fun H locs hG => ?_)
        refine lv_iconst (v := 0) hx hb dX5_text_32 (by decide) ?_
        refine lv_istore_n (lv' := [(3, .int 0), (0, .ref (ad 0)), (1, .int x1), (2, .int x2)]) hx hb dX5_text_33 rfl hl (by decide) rfl (fun ls hl => ?_)
        obtain ⟨texts_L34, e34, h⟩ := bd1_some h
        refine hL_34 _ _ _ _ _ _ (fun ls H locs hl hG => ?_) _ _ _ e34 _ _ _ (lv_sub hl [1, 2, 3, 0] rfl) hG
        refine lv_iload_n hx hb dX5_text_59 rfl (lv_at hl 1 rfl) ?_
        cases h
        exact hret _ _ _ _ hG dX5_text_60 rfl
      · rw [if_neg c16] at h
        refine lv_aload_n hx hb dX5_text_19 rfl (lv_at hl 0 rfl) ?_
        refine lv_iconst (v := 5) hx hb dX5_text_20 (by decide) ?_
        obtain ⟨v21, finding_21, findings_21, e21, h⟩ := bd3_some h
        refine x_vi (rest := []) (ws' := (wX5 cI ad deeds finding_21 asked upper lower m_at wrong rowSize rows textSize texts spare now draft tried past kept keptPast keptDeeds findings_21 worth)) hc hG (cc_X5_found0 ad deeds finding asked upper lower m_at wrong rowSize rows textSize texts spare now draft tried past kept keptPast keptDeeds findings worth 5 v21 finding_21 findings_21 e21) [0, 1, 2, 3, 4, 5, 6, 7, 8, 9, 10, 11, 12, 13, 14] [] [0, 1, 2, 3, 4, 5, 6, 7, 8, 9, 10, 11, 12, 13, 14] rfl rfl rfl 0 rfl rfl lX5_71 ⟨rfl, rfl, by decide, by decide⟩ rfl hl.1 (Nat.le_of_ble_eq_true rfl) rfl dX5_text_21 (fun H locs hG => ?_)
        cases h
        exact hret _ _ _ _ hG dX5_text_24 rfl
    · rw [if_neg c10] at h
      refine lv_iconst (v := (-1)) hx hb dX5_text_13 (by decide) ?_
      cases h
      exact hret _ _ _ _ hG dX5_text_14 rfl
set_option maxRecDepth 100000 in
set_option maxHeartbeats 4000000 in
theorem cc_X5_put {l : Launch} {D : va_G} {cI : ClassId} {tL : Nat} (ad : Nat → Nat) (deeds : Int32) (finding : Int32) (asked : Int32) (upper : Int64) (lower : Int64) (m_at : Int32) (wrong : Int32) (rowSize : Nat → Int32) (rows : Nat → Int32) (textSize : Nat → Int32) (texts : Nat → Int32) (spare : Nat → Int32) (now : Nat → Int32) (draft : Nat → Int32) (tried : Nat → Int32) (past : Nat → Int32) (kept : Nat → Int32) (keptPast : Nat → Int32) (keptDeeds : Nat → Int32) (findings : Nat → Int32) (worth : Nat → Int32) (x1 : Int32) (x2 : Int32) (x3 : Int32) (r' : Int32) (finding' : Int32) (texts' : Nat → Int32) (findings' : Nat → Int32) (h : fX5_put finding textSize texts findings x1 x2 x3 = some (r', finding', texts', findings')) : Ci l D cI tL yX5_put cX5_put 6 .int rmX5_put (wX5 cI ad deeds finding asked upper lower m_at wrong rowSize rows textSize texts spare now draft tried past kept keptPast keptDeeds findings worth) [.ref (ad 0), .int x1, .int x2, .int x3] r' (wX5 cI ad deeds finding' asked upper lower m_at wrong rowSize rows textSize texts' spare now draft tried past kept keptPast keptDeeds findings' worth) := by
  refine Ci_of (own := RX5) (by decide) (Nat.le_of_ble_eq_true rfl) rfl ?_
  intro p e s m below meth c Q A AV hc hret ls hl hG
  obtain ⟨hx, hb, hml, hown, hts, hK, hA, hz⟩ := id hc
  have hl : lv_has ls 6 [(0, .ref (ad 0)), (1, .int x1), (2, .int x2), (3, .int x3)] := hl
  have hj_96 : ∀ (finding : Int32) (texts : Nat → Int32) (findings : Nat → Int32) (x4 : Int32) (k1 : Int32) (k2 : Int32) , fX5_put_j96 finding texts findings x4 k1 k2 = some (r', finding', texts', findings') → ∀ (ls : Array Slot) (H : Heap) (locs : List Loc), lv_has ls 6 [(0, .ref (ad 0)), (4, .int x4)] → St D A s (wX5 cI ad deeds finding asked upper lower m_at wrong rowSize rows textSize texts spare now draft tried past kept keptPast keptDeeds findings worth) H locs → W p l e rmX5_put s m AV below meth c H locs 0 0 Q (F0 m 96 ls [.int k2, .int k1, .ref (ad 4)]) := by
    intro finding texts findings x4 k1 k2 h ls H locs hl hG
    unfold fX5_put_j96 at h
    obtain ⟨texts_96, e96, h⟩ := bd1_some h
    refine x_ast (ws' := (wX5 cI ad deeds finding asked upper lower m_at wrong rowSize rows textSize texts_96 spare now draft tried past kept keptPast keptDeeds findings worth)) hc hG 4 rfl e96 rfl dX5_put_96 (fun H locs hG => ?_)
    refine lv_iload hx hb dX5_put_97 (lv_at hl 1 rfl) ?_
    refine lv_sipush (v := 1000) hx hb dX5_put_99 (by decide) ?_
    refine lv_iadd hx hb dX5_put_102 ?_
    cases h
    exact hret _ _ _ _ hG dX5_put_103 rfl
  unfold fX5_put at h
  refine lv_iload_n hx hb dX5_put_0 rfl (lv_at hl 1 rfl) ?_
  obtain ⟨v1, e1, h⟩ := bd1_some h
  refine x_si0 (rest := []) hc hG (cc_X5_isText x1 v1 e1) lX5_81 ⟨rfl, rfl, by decide, by decide⟩ rfl hl.1 (Nat.le_of_ble_eq_true rfl) rfl dX5_put_1 (fun H locs hG => ?_)
  refine lv_if_ne (tgt := 9) hx hb dX5_put_4 (by decide) (fun c4 => ?_) (fun c4 => ?_)
  · rw [if_neg c4] at h
    refine lv_aload_n hx hb dX5_put_9 rfl (lv_at hl 0 rfl) ?_
    refine x_get hc hG 0 rfl iX5 2 lX5_16 rfl dX5_put_10 ?_
    refine lv_iload_n hx hb dX5_put_13 rfl (lv_at hl 1 rfl) ?_
    obtain ⟨v14, e14, h⟩ := bd1_some h
    refine x_ald hc hG 3 rfl e14 dX5_put_14 ?_
    refine lv_bipush (v := (-9)) hx hb dX5_put_15 (by decide) ?_
    refine lv_icmp_ne (tgt := 26) hx hb dX5_put_17 (by decide) (fun c17 => ?_) (fun c17 => ?_)
    · rw [if_neg c17] at h
      refine lv_iload_n hx hb dX5_put_26 rfl (lv_at hl 2 rfl) ?_
      refine lv_iconst (v := 0) hx hb dX5_put_27 (by decide) ?_
      refine lv_aload_n hx hb dX5_put_28 rfl (lv_at hl 0 rfl) ?_
      refine x_get hc hG 0 rfl iX5 2 lX5_16 rfl dX5_put_29 ?_
      refine lv_iload_n hx hb dX5_put_32 rfl (lv_at hl 1 rfl) ?_
      obtain ⟨v33, e33, h⟩ := bd1_some h
      refine x_ald hc hG 3 rfl e33 dX5_put_33 ?_
      refine lv_iconst (v := 1) hx hb dX5_put_34 (by decide) ?_
      refine lv_isub hx hb dX5_put_35 ?_
      obtain ⟨v36, e36, h⟩ := bd1_some h
      refine x_si0 (rest := []) hc hG (cc_X5_in0 x2 0 (v33 - 1) v36 e36) lX5_63 ⟨rfl, rfl, by decide, by decide⟩ rfl hl.1 (Nat.le_of_ble_eq_true rfl) rfl dX5_put_36 (fun H locs hG => ?_)
      refine lv_if_ne (tgt := 48) hx hb dX5_put_39 (by decide) (fun c39 => ?_) (fun c39 => ?_)
      · rw [if_neg c39] at h
        refine lv_aload_n hx hb dX5_put_48 rfl (lv_at hl 0 rfl) ?_
        refine x_get hc hG 0 rfl iX5 3 lX5_19 rfl dX5_put_49 ?_
        refine lv_bipush (v := 60) hx hb dX5_put_52 (by decide) ?_
        refine lv_iload_n hx hb dX5_put_54 rfl (lv_at hl 1 rfl) ?_
        refine lv_imul hx hb dX5_put_55 ?_
        refine lv_iload_n hx hb dX5_put_56 rfl (lv_at hl 2 rfl) ?_
        refine lv_iadd hx hb dX5_put_57 ?_
        obtain ⟨v58, e58, h⟩ := bd1_some h
        refine x_ald hc hG 4 rfl e58 dX5_put_58 ?_
        refine lv_istore (lv' := [(4, .int v58), (0, .ref (ad 0)), (1, .int x1), (2, .int x2), (3, .int x3)]) hx hb dX5_put_59 hl (by decide) rfl (fun ls hl => ?_)
        refine lv_iload_n hx hb dX5_put_61 rfl (lv_at hl 4 rfl) ?_
        refine lv_sipush (v := 255) hx hb dX5_put_62 (by decide) ?_
        refine lv_iand hx hb dX5_put_65 ?_
        refine lv_istore (lv' := [(5, .int (x3 &&& 255)), (4, .int v58), (0, .ref (ad 0)), (1, .int x1), (2, .int x2), (3, .int x3)]) hx hb dX5_put_66 hl (by decide) rfl (fun ls hl => ?_)
        refine lv_aload_n hx hb dX5_put_68 rfl (lv_at hl 2 rfl) ?_
        refine x_get hc hG 0 rfl iX5 3 lX5_19 rfl dX5_put_69 ?_
        refine lv_bipush (v := 60) hx hb dX5_put_72 (by decide) ?_
        refine lv_iload_n hx hb dX5_put_74 rfl (lv_at hl 3 rfl) ?_
        refine lv_imul hx hb dX5_put_75 ?_
        refine lv_iload_n hx hb dX5_put_76 rfl (lv_at hl 4 rfl) ?_
        refine lv_iadd hx hb dX5_put_77 ?_
        refine lv_iload hx hb dX5_put_78 (lv_at hl 0 rfl) ?_
        refine lv_bipush (v := 127) hx hb dX5_put_80 (by decide) ?_
        refine lv_icmp_le (tgt := 94) hx hb dX5_put_82 (by decide) (fun c82 => ?_) (fun c82 => ?_)
        · rw [if_pos c82] at h
          refine lv_iload hx hb dX5_put_94 (lv_at hl 0 rfl) ?_
          exact hj_96 _ _ _ _ _ _ h _ _ _ (lv_sub hl [2, 1] rfl) hG
        · rw [if_neg c82] at h
          refine lv_iload hx hb dX5_put_85 (lv_at hl 0 rfl) ?_
          refine lv_sipush (v := 256) hx hb dX5_put_87 (by decide) ?_
          refine lv_isub hx hb dX5_put_90 ?_
          refine lv_goto (tgt := 96) hx hb dX5_put_91 (by decide) ?_
          exact hj_96 _ _ _ _ _ _ h _ _ _ (lv_sub hl [2, 1] rfl) hG
      · rw [if_pos c39] at h
        refine lv_aload_n hx hb dX5_put_42 rfl (lv_at hl 0 rfl) ?_
        refine lv_iconst (v := 2) hx hb dX5_put_43 (by decide) ?_
        obtain ⟨v44, finding_44, findings_44, e44, h⟩ := bd3_some h
        refine x_vi (rest := []) (ws' := (wX5 cI ad deeds finding_44 asked upper lower m_at wrong rowSize rows textSize texts spare now draft tried past kept keptPast keptDeeds findings_44 worth)) hc hG (cc_X5_found0 ad deeds finding asked upper lower m_at wrong rowSize rows textSize texts spare now draft tried past kept keptPast keptDeeds findings worth 2 v44 finding_44 findings_44 e44) [0, 1, 2, 3, 4, 5, 6, 7, 8, 9, 10, 11, 12, 13, 14] [] [0, 1, 2, 3, 4, 5, 6, 7, 8, 9, 10, 11, 12, 13, 14] rfl rfl rfl 0 rfl rfl lX5_71 ⟨rfl, rfl, by decide, by decide⟩ rfl hl.1 (Nat.le_of_ble_eq_true rfl) rfl dX5_put_44 (fun H locs hG => ?_)
        cases h
        exact hret _ _ _ _ hG dX5_put_47 rfl
    · rw [if_pos c17] at h
      refine lv_aload_n hx hb dX5_put_20 rfl (lv_at hl 0 rfl) ?_
      refine lv_iconst (v := 1) hx hb dX5_put_21 (by decide) ?_
      obtain ⟨v22, finding_22, findings_22, e22, h⟩ := bd3_some h
      refine x_vi (rest := []) (ws' := (wX5 cI ad deeds finding_22 asked upper lower m_at wrong rowSize rows textSize texts spare now draft tried past kept keptPast keptDeeds findings_22 worth)) hc hG (cc_X5_found0 ad deeds finding asked upper lower m_at wrong rowSize rows textSize texts spare now draft tried past kept keptPast keptDeeds findings worth 1 v22 finding_22 findings_22 e22) [0, 1, 2, 3, 4, 5, 6, 7, 8, 9, 10, 11, 12, 13, 14] [] [0, 1, 2, 3, 4, 5, 6, 7, 8, 9, 10, 11, 12, 13, 14] rfl rfl rfl 0 rfl rfl lX5_71 ⟨rfl, rfl, by decide, by decide⟩ rfl hl.1 (Nat.le_of_ble_eq_true rfl) rfl dX5_put_22 (fun H locs hG => ?_)
      cases h
      exact hret _ _ _ _ hG dX5_put_25 rfl
  · rw [if_pos c4] at h
    refine lv_iconst (v := (-1)) hx hb dX5_put_7 (by decide) ?_
    cases h
    exact hret _ _ _ _ hG dX5_put_8 rfl
set_option maxRecDepth 100000 in
set_option maxHeartbeats 4000000 in
theorem cc_X5_look {l : Launch} {D : va_G} {cI : ClassId} {tL : Nat} (ad : Nat → Nat) (deeds : Int32) (finding : Int32) (asked : Int32) (upper : Int64) (lower : Int64) (m_at : Int32) (wrong : Int32) (rowSize : Nat → Int32) (rows : Nat → Int32) (textSize : Nat → Int32) (texts : Nat → Int32) (spare : Nat → Int32) (now : Nat → Int32) (draft : Nat → Int32) (tried : Nat → Int32) (past : Nat → Int32) (kept : Nat → Int32) (keptPast : Nat → Int32) (keptDeeds : Nat → Int32) (findings : Nat → Int32) (worth : Nat → Int32) (x1 : Int32) (r' : Int32) (h : fX5_look m_at textSize texts x1 = some r') : Ci l D cI tL yX5_look cX5_look 2 .int rmX5_look (wX5 cI ad deeds finding asked upper lower m_at wrong rowSize rows textSize texts spare now draft tried past kept keptPast keptDeeds findings worth) [.ref (ad 0), .int x1] r' (wX5 cI ad deeds finding asked upper lower m_at wrong rowSize rows textSize texts spare now draft tried past kept keptPast keptDeeds findings worth) := by
  refine Ci_of (own := RX5) (by decide) (Nat.le_of_ble_eq_true rfl) rfl ?_
  intro p e s m below meth c Q A AV hc hret ls hl hG
  obtain ⟨hx, hb, hml, hown, hts, hK, hA, hz⟩ := id hc
  have hl : lv_has ls 2 [(0, .ref (ad 0)), (1, .int x1)] := hl
  unfold fX5_look at h
  refine lv_aload_n hx hb dX5_look_0 rfl (lv_at hl 0 rfl) ?_
  refine x_get hc hG 0 rfl iX5 18 lX5_84 rfl dX5_look_1 ?_
  refine lv_aload_n hx hb dX5_look_4 rfl (lv_at hl 0 rfl) ?_
  refine x_get hc hG 0 rfl iX5 2 lX5_16 rfl dX5_look_5 ?_
  refine lv_iload_n hx hb dX5_look_8 rfl (lv_at hl 1 rfl) ?_
  obtain ⟨v9, e9, h⟩ := bd1_some h
  refine x_ald hc hG 3 rfl e9 dX5_look_9 ?_
  refine lv_icmp_ge (tgt := 30) hx hb dX5_look_10 (by decide) (fun c10 => ?_) (fun c10 => ?_)
  · rw [if_pos c10] at h
    refine lv_sipush (v := (-1000)) hx hb dX5_look_30 (by decide) ?_
    cases h
    exact hret _ _ _ _ hG dX5_look_33 rfl
  · rw [if_neg c10] at h
    refine lv_aload_n hx hb dX5_look_13 rfl (lv_at hl 0 rfl) ?_
    refine x_get hc hG 0 rfl iX5 3 lX5_19 rfl dX5_look_14 ?_
    refine lv_bipush (v := 60) hx hb dX5_look_17 (by decide) ?_
    refine lv_iload_n hx hb dX5_look_19 rfl (lv_at hl 1 rfl) ?_
    refine lv_imul hx hb dX5_look_20 ?_
    refine lv_aload_n hx hb dX5_look_21 rfl (lv_at hl 0 rfl) ?_
    refine x_get hc hG 0 rfl iX5 18 lX5_84 rfl dX5_look_22 ?_
    refine lv_iadd hx hb dX5_look_25 ?_
    obtain ⟨v26, e26, h⟩ := bd1_some h
    refine x_ald hc hG 4 rfl e26 dX5_look_26 ?_
    refine lv_goto (tgt := 33) hx hb dX5_look_27 (by decide) ?_
    cases h
    exact hret _ _ _ _ hG dX5_look_33 rfl
set_option maxRecDepth 100000 in
set_option maxHeartbeats 4000000 in
theorem cc_X5_blanks {l : Launch} {D : va_G} {cI : ClassId} {tL : Nat} (ad : Nat → Nat) (deeds : Int32) (finding : Int32) (asked : Int32) (upper : Int64) (lower : Int64) (m_at : Int32) (wrong : Int32) (rowSize : Nat → Int32) (rows : Nat → Int32) (textSize : Nat → Int32) (texts : Nat → Int32) (spare : Nat → Int32) (now : Nat → Int32) (draft : Nat → Int32) (tried : Nat → Int32) (past : Nat → Int32) (kept : Nat → Int32) (keptPast : Nat → Int32) (keptDeeds : Nat → Int32) (findings : Nat → Int32) (worth : Nat → Int32) (x1 : Int32) (m_at' : Int32) (h : fX5_blanks m_at wrong textSize texts x1 = some m_at') : Cv l D cI tL yX5_blanks cX5_blanks 2 rmX5_blanks (wX5 cI ad deeds finding asked upper lower m_at wrong rowSize rows textSize texts spare now draft tried past kept keptPast keptDeeds findings worth) [.ref (ad 0), .int x1] (wX5 cI ad deeds finding asked upper lower m_at' wrong rowSize rows textSize texts spare now draft tried past kept keptPast keptDeeds findings worth) := by
  refine Cv_of (own := RX5) (by decide) (Nat.le_of_ble_eq_true rfl) rfl ?_
  intro p e s m below meth c Q A AV hc hret ls hl hG
  obtain ⟨hx, hb, hml, hown, hts, hK, hA, hz⟩ := id hc
  have hl : lv_has ls 2 [(0, .ref (ad 0)), (1, .int x1)] := hl
  have hL_0 : ∀ (x1 : Int32) (m_at_o : Int32), (∀ (ls : Array Slot) (H : Heap) (locs : List Loc), lv_has ls 2 [(0, .ref (ad 0))] → St D A s (wX5 cI ad deeds finding asked upper lower m_at_o wrong rowSize rows textSize texts spare now draft tried past kept keptPast keptDeeds findings worth) H locs → W p l e rmX5_blanks s m AV below meth c H locs 0 0 Q (F0 m 32 ls [])) → ∀ (n : Nat) (m_at : Int32), fX5_blanks_L0 wrong textSize texts x1 n m_at = some m_at_o → ∀ (ls : Array Slot) (H : Heap) (locs : List Loc), lv_has ls 2 [(0, .ref (ad 0)), (1, .int x1)] → St D A s (wX5 cI ad deeds finding asked upper lower m_at wrong rowSize rows textSize texts spare now draft tried past kept keptPast keptDeeds findings worth) H locs → W p l e rmX5_blanks s m AV below meth c H locs 0 0 Q (F0 m 0 ls []) := by
    intro x1 m_at_o KE n
    induction n with
    | zero =>
      intro m_at h
      exact nomatch (show none = some _ from h)
    | succ n ih =>
      intro m_at h ls H locs hl hG
      have h : fX5_blanks_B0 wrong textSize texts x1 (fX5_blanks_L0 wrong textSize texts x1 n) m_at = some m_at_o := h
      unfold fX5_blanks_B0 at h
      refine lv_aload_n hx hb dX5_blanks_0 rfl (lv_at hl 0 rfl) ?_
      refine x_get hc hG 0 rfl iX5 19 lX5_87 rfl dX5_blanks_1 ?_
      refine lv_bipush (v := (-9)) hx hb dX5_blanks_4 (by decide) ?_
      refine lv_icmp_ne (tgt := 32) hx hb dX5_blanks_6 (by decide) (fun c6 => ?_) (fun c6 => ?_)
      · rw [if_neg c6] at h
        cases h
        exact KE _ _ _ (lv_sub hl [0] rfl) hG
      · rw [if_pos c6] at h
        refine lv_aload_n hx hb dX5_blanks_9 rfl (lv_at hl 0 rfl) ?_
        refine lv_iload_n hx hb dX5_blanks_10 rfl (lv_at hl 1 rfl) ?_
        obtain ⟨v11, e11, h⟩ := bd1_some h
        refine x_vi (rest := []) (ws' := (wX5 cI ad deeds finding asked upper lower m_at wrong rowSize rows textSize texts spare now draft tried past kept keptPast keptDeeds findings worth)) hc hG (cc_X5_look ad deeds finding asked upper lower m_at wrong rowSize rows textSize texts spare now draft tried past kept keptPast keptDeeds findings worth x1 v11 e11) [0, 1, 2, 3, 4, 5, 6, 7, 8, 9, 10, 11, 12, 13, 14] [] [0, 1, 2, 3, 4, 5, 6, 7, 8, 9, 10, 11, 12, 13, 14] rfl rfl rfl 0 rfl rfl lX5_90 ⟨rfl, rfl, by decide, by decide⟩ rfl hl.1 (Nat.le_of_ble_eq_true rfl) rfl dX5_blanks_11 (fun H locs hG => ?_)
        refine lv_bipush (v := 32) hx hb dX5_blanks_14 (by decide) ?_
        refine lv_icmp_ne (tgt := 32) hx hb dX5_blanks_16 (by decide) (fun c16 => ?_) (fun c16 => ?_)
        · rw [if_neg c16] at h
          cases h
          exact KE _ _ _ (lv_sub hl [0] rfl) hG
        · rw [if_pos c16] at h
          refine lv_aload_n hx hb dX5_blanks_19 rfl (lv_at hl 0 rfl) ?_
          refine lv_dup hx hb dX5_blanks_20 rfl ?_
          refine x_get hc hG 0 rfl iX5 18 lX5_84 rfl dX5_blanks_21 ?_
          refine lv_iconst (v := 1) hx hb dX5_blanks_24 (by decide) ?_
          refine lv_iadd hx hb dX5_blanks_25 ?_
          refine x_put (ws' := (wX5 cI ad deeds finding asked upper lower (m_at + 1) wrong rowSize rows textSize texts spare now draft tried past kept keptPast keptDeeds findings worth)) hc hG 0 rfl iX5 tyX5 tyX5_ok nmX5 18 lX5_84 rfl rfl rfl (Nat.le_of_ble_eq_true rfl) rfl dX5_blanks_26 (fun H locs hG => ?_)
          refine lv_goto (tgt := 0) hx hb dX5_blanks_29 (by decide) ?_
          exact ih _ h _ _ _ (lv_sub hl [0, 1] rfl) hG
  unfold fX5_blanks at h
  obtain ⟨m_at_L0, e0, h⟩ := bd1_some h
  refine hL_0 _ _ (fun ls H locs hl hG => ?_) _ _ e0 _ _ _ (lv_sub hl [0, 1] rfl) hG
  cases h
  exact hret _ _ _ _ hG dX5_blanks_32
set_option maxRecDepth 100000 in
set_option maxHeartbeats 4000000 in
theorem cc_X5_fails {l : Launch} {D : va_G} {cI : ClassId} {tL : Nat} (ad : Nat → Nat) (deeds : Int32) (finding : Int32) (asked : Int32) (upper : Int64) (lower : Int64) (m_at : Int32) (wrong : Int32) (rowSize : Nat → Int32) (rows : Nat → Int32) (textSize : Nat → Int32) (texts : Nat → Int32) (spare : Nat → Int32) (now : Nat → Int32) (draft : Nat → Int32) (tried : Nat → Int32) (past : Nat → Int32) (kept : Nat → Int32) (keptPast : Nat → Int32) (keptDeeds : Nat → Int32) (findings : Nat → Int32) (worth : Nat → Int32) (x1 : Int32) (wrong' : Int32) (h : fX5_fails wrong x1 = some wrong') : Cv l D cI tL yX5_fails cX5_fails 2 rmX5_fails (wX5 cI ad deeds finding asked upper lower m_at wrong rowSize rows textSize texts spare now draft tried past kept keptPast keptDeeds findings worth) [.ref (ad 0), .int x1] (wX5 cI ad deeds finding asked upper lower m_at wrong' rowSize rows textSize texts spare now draft tried past kept keptPast keptDeeds findings worth) := by
  refine Cv_of (own := RX5) (by decide) (Nat.le_of_ble_eq_true rfl) rfl ?_
  intro p e s m below meth c Q A AV hc hret ls hl hG
  obtain ⟨hx, hb, hml, hown, hts, hK, hA, hz⟩ := id hc
  have hl : lv_has ls 2 [(0, .ref (ad 0)), (1, .int x1)] := hl
  have hj_18 : ∀  (k1 : Int32) (wrong : Int32), fX5_fails_j18 k1 = some wrong' → ∀ (ls : Array Slot) (H : Heap) (locs : List Loc), lv_has ls 2 [(0, .ref (ad 0))] → St D A s (wX5 cI ad deeds finding asked upper lower m_at wrong rowSize rows textSize texts spare now draft tried past kept keptPast keptDeeds findings worth) H locs → W p l e rmX5_fails s m AV below meth c H locs 0 0 Q (F0 m 18 ls [.int k1, .ref (ad 0)]) := by
    intro k1 wrong h ls H locs hl hG
    unfold fX5_fails_j18 at h
    refine x_put (ws' := (wX5 cI ad deeds finding asked upper lower m_at k1 rowSize rows textSize texts spare now draft tried past kept keptPast keptDeeds findings worth)) hc hG 0 rfl iX5 tyX5 tyX5_ok nmX5 19 lX5_87 rfl rfl rfl (Nat.le_of_ble_eq_true rfl) rfl dX5_fails_18 (fun H locs hG => ?_)
    cases h
    exact hret _ _ _ _ hG dX5_fails_21
  unfold fX5_fails at h
  refine lv_aload_n hx hb dX5_fails_0 rfl (lv_at hl 0 rfl) ?_
  refine lv_aload_n hx hb dX5_fails_1 rfl (lv_at hl 0 rfl) ?_
  refine x_get hc hG 0 rfl iX5 19 lX5_87 rfl dX5_fails_2 ?_
  refine lv_bipush (v := (-9)) hx hb dX5_fails_5 (by decide) ?_
  refine lv_icmp_ne (tgt := 14) hx hb dX5_fails_7 (by decide) (fun c7 => ?_) (fun c7 => ?_)
  · rw [if_neg c7] at h
    refine lv_aload_n hx hb dX5_fails_14 rfl (lv_at hl 0 rfl) ?_
    refine x_get hc hG 0 rfl iX5 19 lX5_87 rfl dX5_fails_15 ?_
    exact hj_18 _ _ h _ _ _ (lv_sub hl [0] rfl) hG
  · rw [if_pos c7] at h
    refine lv_iload_n hx hb dX5_fails_10 rfl (lv_at hl 1 rfl) ?_
    refine lv_goto (tgt := 18) hx hb dX5_fails_11 (by decide) ?_
    exact hj_18 _ _ h _ _ _ (lv_sub hl [0] rfl) hG
set_option maxRecDepth 100000 in
set_option maxHeartbeats 4000000 in
theorem cc_X5_letter {l : Launch} {D : va_G} {cI : ClassId} {tL : Nat} (ad : Nat → Nat) (deeds : Int32) (finding : Int32) (asked : Int32) (upper : Int64) (lower : Int64) (m_at : Int32) (wrong : Int32) (rowSize : Nat → Int32) (rows : Nat → Int32) (textSize : Nat → Int32) (texts : Nat → Int32) (spare : Nat → Int32) (now : Nat → Int32) (draft : Nat → Int32) (tried : Nat → Int32) (past : Nat → Int32) (kept : Nat → Int32) (keptPast : Nat → Int32) (keptDeeds : Nat → Int32) (findings : Nat → Int32) (worth : Nat → Int32) (x1 : Int32) (x2 : Int32) (m_at' : Int32) (wrong' : Int32) (h : fX5_letter m_at wrong textSize texts x1 x2 = some (m_at', wrong')) : Cv l D cI tL yX5_letter cX5_letter 3 rmX5_letter (wX5 cI ad deeds finding asked upper lower m_at wrong rowSize rows textSize texts spare now draft tried past kept keptPast keptDeeds findings worth) [.ref (ad 0), .int x1, .int x2] (wX5 cI ad deeds finding asked upper lower m_at' wrong' rowSize rows textSize texts spare now draft tried past kept keptPast keptDeeds findings worth) := by
  refine Cv_of (own := RX5) (by decide) (Nat.le_of_ble_eq_true rfl) rfl ?_
  intro p e s m below meth c Q A AV hc hret ls hl hG
  obtain ⟨hx, hb, hml, hown, hts, hK, hA, hz⟩ := id hc
  have hl : lv_has ls 3 [(0, .ref (ad 0)), (1, .int x1), (2, .int x2)] := hl
  have hj_26 : ∀ (m_at : Int32) (wrong : Int32) , fX5_letter_j26 m_at wrong = some (m_at', wrong') → ∀ (ls : Array Slot) (H : Heap) (locs : List Loc), lv_has ls 3 [(0, .ref (ad 0))] → St D A s (wX5 cI ad deeds finding asked upper lower m_at wrong rowSize rows textSize texts spare now draft tried past kept keptPast keptDeeds findings worth) H locs → W p l e rmX5_letter s m AV below meth c H locs 0 0 Q (F0 m 26 ls []) := by
    intro m_at wrong h ls H locs hl hG
    unfold fX5_letter_j26 at h
    refine lv_aload_n hx hb dX5_letter_26 rfl (lv_at hl 0 rfl) ?_
    refine lv_dup hx hb dX5_letter_27 rfl ?_
    refine x_get hc hG 0 rfl iX5 18 lX5_84 rfl dX5_letter_28 ?_
    refine lv_iconst (v := 1) hx hb dX5_letter_31 (by decide) ?_
    refine lv_iadd hx hb dX5_letter_32 ?_
    refine x_put (ws' := (wX5 cI ad deeds finding asked upper lower (m_at + 1) wrong rowSize rows textSize texts spare now draft tried past kept keptPast keptDeeds findings worth)) hc hG 0 rfl iX5 tyX5 tyX5_ok nmX5 18 lX5_84 rfl rfl rfl (Nat.le_of_ble_eq_true rfl) rfl dX5_letter_33 (fun H locs hG => ?_)
    cases h
    exact hret _ _ _ _ hG dX5_letter_36
  unfold fX5_letter at h
  refine lv_aload_n hx hb dX5_letter_0 rfl (lv_at hl 0 rfl) ?_
  refine x_get hc hG 0 rfl iX5 19 lX5_87 rfl dX5_letter_1 ?_
  refine lv_bipush (v := (-9)) hx hb dX5_letter_4 (by decide) ?_
  refine lv_icmp_ne (tgt := 26) hx hb dX5_letter_6 (by decide) (fun c6 => ?_) (fun c6 => ?_)
  · rw [if_neg c6] at h
    exact hj_26 _ _ h _ _ _ (lv_sub hl [0] rfl) hG
  · rw [if_pos c6] at h
    refine lv_aload_n hx hb dX5_letter_9 rfl (lv_at hl 0 rfl) ?_
    refine lv_iload_n hx hb dX5_letter_10 rfl (lv_at hl 1 rfl) ?_
    obtain ⟨v11, e11, h⟩ := bd1_some h
    refine x_vi (rest := []) (ws' := (wX5 cI ad deeds finding asked upper lower m_at wrong rowSize rows textSize texts spare now draft tried past kept keptPast keptDeeds findings worth)) hc hG (cc_X5_look ad deeds finding asked upper lower m_at wrong rowSize rows textSize texts spare now draft tried past kept keptPast keptDeeds findings worth x1 v11 e11) [0, 1, 2, 3, 4, 5, 6, 7, 8, 9, 10, 11, 12, 13, 14] [] [0, 1, 2, 3, 4, 5, 6, 7, 8, 9, 10, 11, 12, 13, 14] rfl rfl rfl 0 rfl rfl lX5_90 ⟨rfl, rfl, by decide, by decide⟩ rfl hl.1 (Nat.le_of_ble_eq_true rfl) rfl dX5_letter_11 (fun H locs hG => ?_)
    refine lv_iload_n hx hb dX5_letter_14 rfl (lv_at hl 2 rfl) ?_
    refine lv_icmp_eq (tgt := 26) hx hb dX5_letter_15 (by decide) (fun c15 => ?_) (fun c15 => ?_)
    · rw [if_pos c15] at h
      exact hj_26 _ _ h _ _ _ (lv_sub hl [0] rfl) hG
    · rw [if_neg c15] at h
      refine lv_aload_n hx hb dX5_letter_18 rfl (lv_at hl 0 rfl) ?_
      refine lv_aload_n hx hb dX5_letter_19 rfl (lv_at hl 0 rfl) ?_
      refine x_get hc hG 0 rfl iX5 18 lX5_84 rfl dX5_letter_20 ?_
      obtain ⟨wrong_23, e23, h⟩ := bd1_some h
      refine x_vv (rest := []) (ws' := (wX5 cI ad deeds finding asked upper lower m_at wrong_23 rowSize rows textSize texts spare now draft tried past kept keptPast keptDeeds findings worth)) hc hG (cc_X5_fails ad deeds finding asked upper lower m_at wrong rowSize rows textSize texts spare now draft tried past kept keptPast keptDeeds findings worth m_at wrong_23 e23) [0, 1, 2, 3, 4, 5, 6, 7, 8, 9, 10, 11, 12, 13, 14] [] [0, 1, 2, 3, 4, 5, 6, 7, 8, 9, 10, 11, 12, 13, 14] rfl rfl rfl 0 rfl rfl lX5_93 ⟨rfl, rfl, by decide, by decide⟩ rfl hl.1 (Nat.le_of_ble_eq_true rfl) rfl dX5_letter_23 (fun H locs hG => ?_)
      exact hj_26 _ _ h _ _ _ (lv_sub hl [0] rfl) hG
set_option maxRecDepth 100000 in
set_option maxHeartbeats 4000000 in
theorem cc_X5_figure {l : Launch} {D : va_G} {cI : ClassId} {tL : Nat} (ad : Nat → Nat) (deeds : Int32) (finding : Int32) (asked : Int32) (upper : Int64) (lower : Int64) (m_at : Int32) (wrong : Int32) (rowSize : Nat → Int32) (rows : Nat → Int32) (textSize : Nat → Int32) (texts : Nat → Int32) (spare : Nat → Int32) (now : Nat → Int32) (draft : Nat → Int32) (tried : Nat → Int32) (past : Nat → Int32) (kept : Nat → Int32) (keptPast : Nat → Int32) (keptDeeds : Nat → Int32) (findings : Nat → Int32) (worth : Nat → Int32) (x1 : Int32) (x2 : Int32) (x3 : Int32) (r' : Int32) (m_at' : Int32) (wrong' : Int32) (h : fX5_figure m_at wrong textSize texts x1 x2 x3 = some (r', m_at', wrong')) : Ci l D cI tL yX5_figure cX5_figure 5 .int rmX5_figure (wX5 cI ad deeds finding asked upper lower m_at wrong rowSize rows textSize texts spare now draft tried past kept keptPast keptDeeds findings worth) [.ref (ad 0), .int x1, .int x2, .int x3] r' (wX5 cI ad deeds finding asked upper lower m_at' wrong' rowSize rows textSize texts spare now draft tried past kept keptPast keptDeeds findings worth) := by
  refine Ci_of (own := RX5) (by decide) (Nat.le_of_ble_eq_true rfl) rfl ?_
  intro p e s m below meth c Q A AV hc hret ls hl hG
  obtain ⟨hx, hb, hml, hown, hts, hK, hA, hz⟩ := id hc
  have hl : lv_has ls 5 [(0, .ref (ad 0)), (1, .int x1), (2, .int x2), (3, .int x3)] := hl
  have hj_28 : ∀ (m_at : Int32) (wrong : Int32) (x4 : Int32) , fX5_figure_j28 m_at wrong x4 = some (r', m_at', wrong') → ∀ (ls : Array Slot) (H : Heap) (locs : List Loc), lv_has ls 5 [(0, .ref (ad 0)), (4, .int x4)] → St D A s (wX5 cI ad deeds finding asked upper lower m_at wrong rowSize rows textSize texts spare now draft tried past kept keptPast keptDeeds findings worth) H locs → W p l e rmX5_figure s m AV below meth c H locs 0 0 Q (F0 m 28 ls []) := by
    intro m_at wrong x4 h ls H locs hl hG
    unfold fX5_figure_j28 at h
    refine lv_aload_n hx hb dX5_figure_28 rfl (lv_at hl 0 rfl) ?_
    refine lv_dup hx hb dX5_figure_29 rfl ?_
    refine x_get hc hG 0 rfl iX5 18 lX5_84 rfl dX5_figure_30 ?_
    refine lv_iconst (v := 1) hx hb dX5_figure_33 (by decide) ?_
    refine lv_iadd hx hb dX5_figure_34 ?_
    refine x_put (ws' := (wX5 cI ad deeds finding asked upper lower (m_at + 1) wrong rowSize rows textSize texts spare now draft tried past kept keptPast keptDeeds findings worth)) hc hG 0 rfl iX5 tyX5 tyX5_ok nmX5 18 lX5_84 rfl rfl rfl (Nat.le_of_ble_eq_true rfl) rfl dX5_figure_35 (fun H locs hG => ?_)
    refine lv_aload_n hx hb dX5_figure_38 rfl (lv_at hl 0 rfl) ?_
    refine x_get hc hG 0 rfl iX5 19 lX5_87 rfl dX5_figure_39 ?_
    refine lv_bipush (v := (-9)) hx hb dX5_figure_42 (by decide) ?_
    refine lv_icmp_ne (tgt := 52) hx hb dX5_figure_44 (by decide) (fun c44 => ?_) (fun c44 => ?_)
    · rw [if_neg c44] at h
      refine lv_iconst (v := 0) hx hb dX5_figure_52 (by decide) ?_
      cases h
      exact hret _ _ _ _ hG dX5_figure_53 rfl
    · rw [if_pos c44] at h
      refine lv_iload hx hb dX5_figure_47 (lv_at hl 1 rfl) ?_
      refine lv_goto (tgt := 53) hx hb dX5_figure_49 (by decide) ?_
      cases h
      exact hret _ _ _ _ hG dX5_figure_53 rfl
  unfold fX5_figure at h
  refine lv_aload_n hx hb dX5_figure_0 rfl (lv_at hl 0 rfl) ?_
  refine lv_iload_n hx hb dX5_figure_1 rfl (lv_at hl 1 rfl) ?_
  obtain ⟨v2, e2, h⟩ := bd1_some h
  refine x_vi (rest := []) (ws' := (wX5 cI ad deeds finding asked upper lower m_at wrong rowSize rows textSize texts spare now draft tried past kept keptPast keptDeeds findings worth)) hc hG (cc_X5_look ad deeds finding asked upper lower m_at wrong rowSize rows textSize texts spare now draft tried past kept keptPast keptDeeds findings worth x1 v2 e2) [0, 1, 2, 3, 4, 5, 6, 7, 8, 9, 10, 11, 12, 13, 14] [] [0, 1, 2, 3, 4, 5, 6, 7, 8, 9, 10, 11, 12, 13, 14] rfl rfl rfl 0 rfl rfl lX5_90 ⟨rfl, rfl, by decide, by decide⟩ rfl hl.1 (Nat.le_of_ble_eq_true rfl) rfl dX5_figure_2 (fun H locs hG => ?_)
  refine lv_bipush (v := 48) hx hb dX5_figure_5 (by decide) ?_
  refine lv_isub hx hb dX5_figure_7 ?_
  refine lv_istore (lv' := [(4, .int (v2 - 48)), (0, .ref (ad 0)), (1, .int x1), (2, .int x2), (3, .int x3)]) hx hb dX5_figure_8 hl (by decide) rfl (fun ls hl => ?_)
  refine lv_iload hx hb dX5_figure_10 (lv_at hl 0 rfl) ?_
  refine lv_iload_n hx hb dX5_figure_12 rfl (lv_at hl 3 rfl) ?_
  refine lv_iload_n hx hb dX5_figure_13 rfl (lv_at hl 4 rfl) ?_
  obtain ⟨v14, e14, h⟩ := bd1_some h
  refine x_si0 (rest := []) hc hG (cc_X5_in0 (v2 - 48) x2 x3 v14 e14) lX5_63 ⟨rfl, rfl, by decide, by decide⟩ rfl hl.1 (Nat.le_of_ble_eq_true rfl) rfl dX5_figure_14 (fun H locs hG => ?_)
  refine lv_if_ne (tgt := 28) hx hb dX5_figure_17 (by decide) (fun c17 => ?_) (fun c17 => ?_)
  · rw [if_neg c17] at h
    exact hj_28 _ _ _ h _ _ _ (lv_sub hl [1, 0] rfl) hG
  · rw [if_pos c17] at h
    refine lv_aload_n hx hb dX5_figure_20 rfl (lv_at hl 1 rfl) ?_
    refine lv_aload_n hx hb dX5_figure_21 rfl (lv_at hl 1 rfl) ?_
    refine x_get hc hG 0 rfl iX5 18 lX5_84 rfl dX5_figure_22 ?_
    obtain ⟨wrong_25, e25, h⟩ := bd1_some h
    refine x_vv (rest := []) (ws' := (wX5 cI ad deeds finding asked upper lower m_at wrong_25 rowSize rows textSize texts spare now draft tried past kept keptPast keptDeeds findings worth)) hc hG (cc_X5_fails ad deeds finding asked upper lower m_at wrong rowSize rows textSize texts spare now draft tried past kept keptPast keptDeeds findings worth m_at wrong_25 e25) [0, 1, 2, 3, 4, 5, 6, 7, 8, 9, 10, 11, 12, 13, 14] [] [0, 1, 2, 3, 4, 5, 6, 7, 8, 9, 10, 11, 12, 13, 14] rfl rfl rfl 0 rfl rfl lX5_93 ⟨rfl, rfl, by decide, by decide⟩ rfl hl.1 (Nat.le_of_ble_eq_true rfl) rfl dX5_figure_25 (fun H locs hG => ?_)
    exact hj_28 _ _ _ h _ _ _ (lv_sub hl [1, 0] rfl) hG
set_option maxRecDepth 100000 in
set_option maxHeartbeats 4000000 in
theorem cc_X5_place {l : Launch} {D : va_G} {cI : ClassId} {tL : Nat} (ad : Nat → Nat) (deeds : Int32) (finding : Int32) (asked : Int32) (upper : Int64) (lower : Int64) (m_at : Int32) (wrong : Int32) (rowSize : Nat → Int32) (rows : Nat → Int32) (textSize : Nat → Int32) (texts : Nat → Int32) (spare : Nat → Int32) (now : Nat → Int32) (draft : Nat → Int32) (tried : Nat → Int32) (past : Nat → Int32) (kept : Nat → Int32) (keptPast : Nat → Int32) (keptDeeds : Nat → Int32) (findings : Nat → Int32) (worth : Nat → Int32) (x1 : Int32) (r' : Int32) (m_at' : Int32) (wrong' : Int32) (h : fX5_place m_at wrong textSize texts x1 = some (r', m_at', wrong')) : Ci l D cI tL yX5_place cX5_place 4 .int rmX5_place (wX5 cI ad deeds finding asked upper lower m_at wrong rowSize rows textSize texts spare now draft tried past kept keptPast keptDeeds findings worth) [.ref (ad 0), .int x1] r' (wX5 cI ad deeds finding asked upper lower m_at' wrong' rowSize rows textSize texts spare now draft tried past kept keptPast keptDeeds findings worth) := by
  refine Ci_of (own := RX5) (by decide) (Nat.le_of_ble_eq_true rfl) rfl ?_
  intro p e s m below meth c Q A AV hc hret ls hl hG
  obtain ⟨hx, hb, hml, hown, hts, hK, hA, hz⟩ := id hc
  have hl : lv_has ls 4 [(0, .ref (ad 0)), (1, .int x1)] := hl
  unfold fX5_place at h
  refine lv_aload_n hx hb dX5_place_0 rfl (lv_at hl 0 rfl) ?_
  refine x_get hc hG 0 rfl iX5 18 lX5_84 rfl dX5_place_1 ?_
  refine lv_istore_n (lv' := [(2, .int m_at), (0, .ref (ad 0)), (1, .int x1)]) hx hb dX5_place_4 rfl hl (by decide) rfl (fun ls hl => ?_)
  refine lv_bipush (v := 10) hx hb dX5_place_5 (by decide) ?_
  refine lv_aload_n hx hb dX5_place_7 rfl (lv_at hl 1 rfl) ?_
  refine lv_iload_n hx hb dX5_place_8 rfl (lv_at hl 2 rfl) ?_
  refine lv_iconst (v := 0) hx hb dX5_place_9 (by decide) ?_
  refine lv_bipush (v := 9) hx hb dX5_place_10 (by decide) ?_
  obtain ⟨v12, m_at_12, wrong_12, e12, h⟩ := bd3_some h
  refine x_vi (rest := [.int 10]) (ws' := (wX5 cI ad deeds finding asked upper lower m_at_12 wrong_12 rowSize rows textSize texts spare now draft tried past kept keptPast keptDeeds findings worth)) hc hG (cc_X5_figure ad deeds finding asked upper lower m_at wrong rowSize rows textSize texts spare now draft tried past kept keptPast keptDeeds findings worth x1 0 9 v12 m_at_12 wrong_12 e12) [0, 1, 2, 3, 4, 5, 6, 7, 8, 9, 10, 11, 12, 13, 14] [] [0, 1, 2, 3, 4, 5, 6, 7, 8, 9, 10, 11, 12, 13, 14] rfl rfl rfl 0 rfl rfl lX5_97 ⟨rfl, rfl, by decide, by decide⟩ rfl hl.1 (Nat.le_of_ble_eq_true rfl) rfl dX5_place_12 (fun H locs hG => ?_)
  refine lv_imul hx hb dX5_place_15 ?_
  refine lv_istore_n (lv' := [(3, .int (10 * v12)), (2, .int m_at), (0, .ref (ad 0)), (1, .int x1)]) hx hb dX5_place_16 rfl hl (by decide) rfl (fun ls hl => ?_)
  refine lv_iload_n hx hb dX5_place_17 rfl (lv_at hl 0 rfl) ?_
  refine lv_aload_n hx hb dX5_place_18 rfl (lv_at hl 2 rfl) ?_
  refine lv_iload_n hx hb dX5_place_19 rfl (lv_at hl 3 rfl) ?_
  refine lv_iconst (v := 0) hx hb dX5_place_20 (by decide) ?_
  refine lv_bipush (v := 9) hx hb dX5_place_21 (by decide) ?_
  obtain ⟨v23, m_at_23, wrong_23, e23, h⟩ := bd3_some h
  refine x_vi (rest := [.int (10 * v12)]) (ws' := (wX5 cI ad deeds finding asked upper lower m_at_23 wrong_23 rowSize rows textSize texts spare now draft tried past kept keptPast keptDeeds findings worth)) hc hG (cc_X5_figure ad deeds finding asked upper lower m_at_12 wrong_12 rowSize rows textSize texts spare now draft tried past kept keptPast keptDeeds findings worth x1 0 9 v23 m_at_23 wrong_23 e23) [0, 1, 2, 3, 4, 5, 6, 7, 8, 9, 10, 11, 12, 13, 14] [] [0, 1, 2, 3, 4, 5, 6, 7, 8, 9, 10, 11, 12, 13, 14] rfl rfl rfl 0 rfl rfl lX5_97 ⟨rfl, rfl, by decide, by decide⟩ rfl hl.1 (Nat.le_of_ble_eq_true rfl) rfl dX5_place_23 (fun H locs hG => ?_)
  refine lv_iadd hx hb dX5_place_26 ?_
  refine lv_istore_n (lv' := [(3, .int ((10 * v12) + v23)), (2, .int m_at), (0, .ref (ad 0)), (1, .int x1)]) hx hb dX5_place_27 rfl hl (by decide) rfl (fun ls hl => ?_)
  refine lv_aload_n hx hb dX5_place_28 rfl (lv_at hl 2 rfl) ?_
  refine x_get hc hG 0 rfl iX5 19 lX5_87 rfl dX5_place_29 ?_
  refine lv_bipush (v := (-9)) hx hb dX5_place_32 (by decide) ?_
  refine lv_icmp_ne (tgt := 48) hx hb dX5_place_34 (by decide) (fun c34 => ?_) (fun c34 => ?_)
  · rw [if_neg c34] at h
    refine lv_iload_n hx hb dX5_place_48 rfl (lv_at hl 0 rfl) ?_
    cases h
    exact hret _ _ _ _ hG dX5_place_49 rfl
  · rw [if_pos c34] at h
    refine lv_iload_n hx hb dX5_place_37 rfl (lv_at hl 0 rfl) ?_
    refine lv_bipush (v := 15) hx hb dX5_place_38 (by decide) ?_
    refine lv_icmp_le (tgt := 48) hx hb dX5_place_40 (by decide) (fun c40 => ?_) (fun c40 => ?_)
    · rw [if_pos c40] at h
      refine lv_iload_n hx hb dX5_place_48 rfl (lv_at hl 0 rfl) ?_
      cases h
      exact hret _ _ _ _ hG dX5_place_49 rfl
    · rw [if_neg c40] at h
      refine lv_aload_n hx hb dX5_place_43 rfl (lv_at hl 2 rfl) ?_
      refine lv_iload_n hx hb dX5_place_44 rfl (lv_at hl 1 rfl) ?_
      obtain ⟨wrong_45, e45, h⟩ := bd1_some h
      refine x_vv (rest := []) (ws' := (wX5 cI ad deeds finding asked upper lower m_at_23 wrong_45 rowSize rows textSize texts spare now draft tried past kept keptPast keptDeeds findings worth)) hc hG (cc_X5_fails ad deeds finding asked upper lower m_at_23 wrong_23 rowSize rows textSize texts spare now draft tried past kept keptPast keptDeeds findings worth m_at wrong_45 e45) [0, 1, 2, 3, 4, 5, 6, 7, 8, 9, 10, 11, 12, 13, 14] [] [0, 1, 2, 3, 4, 5, 6, 7, 8, 9, 10, 11, 12, 13, 14] rfl rfl rfl 0 rfl rfl lX5_93 ⟨rfl, rfl, by decide, by decide⟩ rfl hl.1 (Nat.le_of_ble_eq_true rfl) rfl dX5_place_45 (fun H locs hG => ?_)
      refine lv_iload_n hx hb dX5_place_48 rfl (lv_at hl 0 rfl) ?_
      cases h
      exact hret _ _ _ _ hG dX5_place_49 rfl
set_option maxRecDepth 100000 in
set_option maxHeartbeats 4000000 in
theorem cc_X5_kindOf {l : Launch} {D : va_G} {cI : ClassId} {tL : Nat} (x0 : Int32) (r' : Int32) (h : fX5_kindOf x0 = some r') : Ci l D cI tL yX5_kindOf cX5_kindOf 1 .int rmX5_kindOf [] [.int x0] r' [] := by
  refine Ci_of (own := RX5) (by decide) (Nat.le_of_ble_eq_true rfl) rfl ?_
  intro p e s m below meth c Q A AV hc hret ls hl hG
  obtain ⟨hx, hb, hml, hown, hts, hK, hA, hz⟩ := id hc
  have hl : lv_has ls 1 [(0, .int x0)] := hl
  unfold fX5_kindOf at h
  refine lv_iload_n hx hb dX5_kindOf_0 rfl (lv_at hl 0 rfl) ?_
  refine lv_bipush (v := 112) hx hb dX5_kindOf_1 (by decide) ?_
  refine lv_icmp_ne (tgt := 10) hx hb dX5_kindOf_3 (by decide) (fun c3 => ?_) (fun c3 => ?_)
  · rw [if_neg c3] at h
    refine lv_iload_n hx hb dX5_kindOf_10 rfl (lv_at hl 0 rfl) ?_
    refine lv_bipush (v := 116) hx hb dX5_kindOf_11 (by decide) ?_
    refine lv_icmp_ne (tgt := 20) hx hb dX5_kindOf_13 (by decide) (fun c13 => ?_) (fun c13 => ?_)
    · rw [if_neg c13] at h
      refine lv_iload_n hx hb dX5_kindOf_20 rfl (lv_at hl 0 rfl) ?_
      refine lv_bipush (v := 108) hx hb dX5_kindOf_21 (by decide) ?_
      refine lv_icmp_ne (tgt := 30) hx hb dX5_kindOf_23 (by decide) (fun c23 => ?_) (fun c23 => ?_)
      · rw [if_neg c23] at h
        refine lv_iload_n hx hb dX5_kindOf_30 rfl (lv_at hl 0 rfl) ?_
        refine lv_bipush (v := 99) hx hb dX5_kindOf_31 (by decide) ?_
        refine lv_icmp_ne (tgt := 40) hx hb dX5_kindOf_33 (by decide) (fun c33 => ?_) (fun c33 => ?_)
        · rw [if_neg c33] at h
          refine lv_iload_n hx hb dX5_kindOf_40 rfl (lv_at hl 0 rfl) ?_
          refine lv_bipush (v := 104) hx hb dX5_kindOf_41 (by decide) ?_
          refine lv_icmp_ne (tgt := 50) hx hb dX5_kindOf_43 (by decide) (fun c43 => ?_) (fun c43 => ?_)
          · rw [if_neg c43] at h
            refine lv_iload_n hx hb dX5_kindOf_50 rfl (lv_at hl 0 rfl) ?_
            refine lv_bipush (v := 105) hx hb dX5_kindOf_51 (by decide) ?_
            refine lv_icmp_ne (tgt := 60) hx hb dX5_kindOf_53 (by decide) (fun c53 => ?_) (fun c53 => ?_)
            · rw [if_neg c53] at h
              refine lv_bipush (v := (-9)) hx hb dX5_kindOf_60 (by decide) ?_
              cases h
              exact hret _ _ _ _ hG dX5_kindOf_62 rfl
            · rw [if_pos c53] at h
              refine lv_iconst (v := 5) hx hb dX5_kindOf_56 (by decide) ?_
              refine lv_goto (tgt := 62) hx hb dX5_kindOf_57 (by decide) ?_
              cases h
              exact hret _ _ _ _ hG dX5_kindOf_62 rfl
          · rw [if_pos c43] at h
            refine lv_iconst (v := 4) hx hb dX5_kindOf_46 (by decide) ?_
            refine lv_goto (tgt := 62) hx hb dX5_kindOf_47 (by decide) ?_
            cases h
            exact hret _ _ _ _ hG dX5_kindOf_62 rfl
        · rw [if_pos c33] at h
          refine lv_iconst (v := 3) hx hb dX5_kindOf_36 (by decide) ?_
          refine lv_goto (tgt := 62) hx hb dX5_kindOf_37 (by decide) ?_
          cases h
          exact hret _ _ _ _ hG dX5_kindOf_62 rfl
      · rw [if_pos c23] at h
        refine lv_iconst (v := 2) hx hb dX5_kindOf_26 (by decide) ?_
        refine lv_goto (tgt := 62) hx hb dX5_kindOf_27 (by decide) ?_
        cases h
        exact hret _ _ _ _ hG dX5_kindOf_62 rfl
    · rw [if_pos c13] at h
      refine lv_iconst (v := 1) hx hb dX5_kindOf_16 (by decide) ?_
      refine lv_goto (tgt := 62) hx hb dX5_kindOf_17 (by decide) ?_
      cases h
      exact hret _ _ _ _ hG dX5_kindOf_62 rfl
  · rw [if_pos c3] at h
    refine lv_iconst (v := 0) hx hb dX5_kindOf_6 (by decide) ?_
    refine lv_goto (tgt := 62) hx hb dX5_kindOf_7 (by decide) ?_
    cases h
    exact hret _ _ _ _ hG dX5_kindOf_62 rfl
set_option maxRecDepth 100000 in
set_option maxHeartbeats 4000000 in
theorem cc_X5_readsPeel {l : Launch} {D : va_G} {cI : ClassId} {tL : Nat} (ad : Nat → Nat) (deeds : Int32) (finding : Int32) (asked : Int32) (upper : Int64) (lower : Int64) (m_at : Int32) (wrong : Int32) (rowSize : Nat → Int32) (rows : Nat → Int32) (textSize : Nat → Int32) (texts : Nat → Int32) (spare : Nat → Int32) (now : Nat → Int32) (draft : Nat → Int32) (tried : Nat → Int32) (past : Nat → Int32) (kept : Nat → Int32) (keptPast : Nat → Int32) (keptDeeds : Nat → Int32) (findings : Nat → Int32) (worth : Nat → Int32) (x1 : Int32) (m_at' : Int32) (wrong' : Int32) (draft' : Nat → Int32) (h : fX5_readsPeel m_at wrong textSize texts draft x1 = some (m_at', wrong', draft')) : Cv l D cI tL yX5_readsPeel cX5_readsPeel 7 rmX5_readsPeel (wX5 cI ad deeds finding asked upper lower m_at wrong rowSize rows textSize texts spare now draft tried past kept keptPast keptDeeds findings worth) [.ref (ad 0), .int x1] (wX5 cI ad deeds finding asked upper lower m_at' wrong' rowSize rows textSize texts spare now draft' tried past kept keptPast keptDeeds findings worth) := by
  refine Cv_of (own := RX5) (by decide) (Nat.le_of_ble_eq_true rfl) rfl ?_
  intro p e s m below meth c Q A AV hc hret ls hl hG
  obtain ⟨hx, hb, hml, hown, hts, hK, hA, hz⟩ := id hc
  have hl : lv_has ls 7 [(0, .ref (ad 0)), (1, .int x1)] := hl
  have hj_60 : ∀ (m_at : Int32) (wrong : Int32) (draft : Nat → Int32) (x1 : Int32) (x2 : Int32) (x3 : Int32) , fX5_readsPeel_j60 m_at wrong textSize texts draft x1 x2 x3 = some (m_at', wrong', draft') → ∀ (ls : Array Slot) (H : Heap) (locs : List Loc), lv_has ls 7 [(0, .ref (ad 0)), (1, .int x1), (2, .int x2), (3, .int x3)] → St D A s (wX5 cI ad deeds finding asked upper lower m_at wrong rowSize rows textSize texts spare now draft tried past kept keptPast keptDeeds findings worth) H locs → W p l e rmX5_readsPeel s m AV below meth c H locs 0 0 Q (F0 m 60 ls []) := by
    intro m_at wrong draft x1 x2 x3 h ls H locs hl hG
    unfold fX5_readsPeel_j60 at h
    refine lv_aload_n hx hb dX5_readsPeel_60 rfl (lv_at hl 0 rfl) ?_
    refine lv_dup hx hb dX5_readsPeel_61 rfl ?_
    refine x_get hc hG 0 rfl iX5 18 lX5_84 rfl dX5_readsPeel_62 ?_
    refine lv_iconst (v := 1) hx hb dX5_readsPeel_65 (by decide) ?_
    refine lv_iadd hx hb dX5_readsPeel_66 ?_
    refine x_put (ws' := (wX5 cI ad deeds finding asked upper lower (m_at + 1) wrong rowSize rows textSize texts spare now draft tried past kept keptPast keptDeeds findings worth)) hc hG 0 rfl iX5 tyX5 tyX5_ok nmX5 18 lX5_84 rfl rfl rfl (Nat.le_of_ble_eq_true rfl) rfl dX5_readsPeel_67 (fun H locs hG => ?_)
    refine lv_aload_n hx hb dX5_readsPeel_70 rfl (lv_at hl 0 rfl) ?_
    refine lv_iload_n hx hb dX5_readsPeel_71 rfl (lv_at hl 1 rfl) ?_
    obtain ⟨v72, m_at_72, wrong_72, e72, h⟩ := bd3_some h
    refine x_vi (rest := []) (ws' := (wX5 cI ad deeds finding asked upper lower m_at_72 wrong_72 rowSize rows textSize texts spare now draft tried past kept keptPast keptDeeds findings worth)) hc hG (cc_X5_place ad deeds finding asked upper lower (m_at + 1) wrong rowSize rows textSize texts spare now draft tried past kept keptPast keptDeeds findings worth x1 v72 m_at_72 wrong_72 e72) [0, 1, 2, 3, 4, 5, 6, 7, 8, 9, 10, 11, 12, 13, 14] [] [0, 1, 2, 3, 4, 5, 6, 7, 8, 9, 10, 11, 12, 13, 14] rfl rfl rfl 0 rfl rfl lX5_104 ⟨rfl, rfl, by decide, by decide⟩ rfl hl.1 (Nat.le_of_ble_eq_true rfl) rfl dX5_readsPeel_72 (fun H locs hG => ?_)
    refine lv_istore (lv' := [(4, .int v72), (0, .ref (ad 0)), (1, .int x1), (2, .int x2), (3, .int x3)]) hx hb dX5_readsPeel_75 hl (by decide) rfl (fun ls hl => ?_)
    refine lv_aload_n hx hb dX5_readsPeel_77 rfl (lv_at hl 1 rfl) ?_
    refine lv_iload_n hx hb dX5_readsPeel_78 rfl (lv_at hl 2 rfl) ?_
    refine lv_iconst (v := 1) hx hb dX5_readsPeel_79 (by decide) ?_
    refine lv_iconst (v := 4) hx hb dX5_readsPeel_80 (by decide) ?_
    obtain ⟨v81, m_at_81, wrong_81, e81, h⟩ := bd3_some h
    refine x_vi (rest := []) (ws' := (wX5 cI ad deeds finding asked upper lower m_at_81 wrong_81 rowSize rows textSize texts spare now draft tried past kept keptPast keptDeeds findings worth)) hc hG (cc_X5_figure ad deeds finding asked upper lower m_at_72 wrong_72 rowSize rows textSize texts spare now draft tried past kept keptPast keptDeeds findings worth x1 1 4 v81 m_at_81 wrong_81 e81) [0, 1, 2, 3, 4, 5, 6, 7, 8, 9, 10, 11, 12, 13, 14] [] [0, 1, 2, 3, 4, 5, 6, 7, 8, 9, 10, 11, 12, 13, 14] rfl rfl rfl 0 rfl rfl lX5_97 ⟨rfl, rfl, by decide, by decide⟩ rfl hl.1 (Nat.le_of_ble_eq_true rfl) rfl dX5_readsPeel_81 (fun H locs hG => ?_)
    refine lv_istore (lv' := [(5, .int v81), (4, .int v72), (0, .ref (ad 0)), (1, .int x1), (2, .int x2), (3, .int x3)]) hx hb dX5_readsPeel_84 hl (by decide) rfl (fun ls hl => ?_)
    refine lv_aload_n hx hb dX5_readsPeel_86 rfl (lv_at hl 2 rfl) ?_
    refine lv_iload_n hx hb dX5_readsPeel_87 rfl (lv_at hl 3 rfl) ?_
    refine lv_iconst (v := 0) hx hb dX5_readsPeel_88 (by decide) ?_
    refine lv_iconst (v := 1) hx hb dX5_readsPeel_89 (by decide) ?_
    obtain ⟨v90, m_at_90, wrong_90, e90, h⟩ := bd3_some h
    refine x_vi (rest := []) (ws' := (wX5 cI ad deeds finding asked upper lower m_at_90 wrong_90 rowSize rows textSize texts spare now draft tried past kept keptPast keptDeeds findings worth)) hc hG (cc_X5_figure ad deeds finding asked upper lower m_at_81 wrong_81 rowSize rows textSize texts spare now draft tried past kept keptPast keptDeeds findings worth x1 0 1 v90 m_at_90 wrong_90 e90) [0, 1, 2, 3, 4, 5, 6, 7, 8, 9, 10, 11, 12, 13, 14] [] [0, 1, 2, 3, 4, 5, 6, 7, 8, 9, 10, 11, 12, 13, 14] rfl rfl rfl 0 rfl rfl lX5_97 ⟨rfl, rfl, by decide, by decide⟩ rfl hl.1 (Nat.le_of_ble_eq_true rfl) rfl dX5_readsPeel_90 (fun H locs hG => ?_)
    refine lv_istore (lv' := [(6, .int v90), (5, .int v81), (4, .int v72), (0, .ref (ad 0)), (1, .int x1), (2, .int x2), (3, .int x3)]) hx hb dX5_readsPeel_93 hl (by decide) rfl (fun ls hl => ?_)
    refine lv_aload_n hx hb dX5_readsPeel_95 rfl (lv_at hl 3 rfl) ?_
    refine x_get hc hG 0 rfl iX5 19 lX5_87 rfl dX5_readsPeel_96 ?_
    refine lv_bipush (v := (-9)) hx hb dX5_readsPeel_99 (by decide) ?_
    refine lv_icmp_ne (tgt := 151) hx hb dX5_readsPeel_101 (by decide) (fun c101 => ?_) (fun c101 => ?_)
    · rw [if_neg c101] at h
      cases h
      exact hret _ _ _ _ hG dX5_readsPeel_151
    · rw [if_pos c101] at h
      refine lv_aload_n hx hb dX5_readsPeel_104 rfl (lv_at hl 3 rfl) ?_
      refine x_get hc hG 0 rfl iX5 6 lX5_28 rfl dX5_readsPeel_105 ?_
      refine lv_iload_n hx hb dX5_readsPeel_108 rfl (lv_at hl 6 rfl) ?_
      refine lv_iload_n hx hb dX5_readsPeel_109 rfl (lv_at hl 5 rfl) ?_
      obtain ⟨draft_110, e110, h⟩ := bd1_some h
      refine x_ast (ws' := (wX5 cI ad deeds finding asked upper lower m_at_90 wrong_90 rowSize rows textSize texts spare now draft_110 tried past kept keptPast keptDeeds findings worth)) hc hG 7 rfl e110 rfl dX5_readsPeel_110 (fun H locs hG => ?_)
      refine lv_aload_n hx hb dX5_readsPeel_111 rfl (lv_at hl 3 rfl) ?_
      refine x_get hc hG 0 rfl iX5 6 lX5_28 rfl dX5_readsPeel_112 ?_
      refine lv_iload_n hx hb dX5_readsPeel_115 rfl (lv_at hl 6 rfl) ?_
      refine lv_iconst (v := 1) hx hb dX5_readsPeel_116 (by decide) ?_
      refine lv_iadd hx hb dX5_readsPeel_117 ?_
      refine lv_iload hx hb dX5_readsPeel_118 (lv_at hl 2 rfl) ?_
      obtain ⟨draft_120, e120, h⟩ := bd1_some h
      refine x_ast (ws' := (wX5 cI ad deeds finding asked upper lower m_at_90 wrong_90 rowSize rows textSize texts spare now draft_120 tried past kept keptPast keptDeeds findings worth)) hc hG 7 rfl e120 rfl dX5_readsPeel_120 (fun H locs hG => ?_)
      refine lv_aload_n hx hb dX5_readsPeel_121 rfl (lv_at hl 3 rfl) ?_
      refine x_get hc hG 0 rfl iX5 6 lX5_28 rfl dX5_readsPeel_122 ?_
      refine lv_iload_n hx hb dX5_readsPeel_125 rfl (lv_at hl 6 rfl) ?_
      refine lv_iconst (v := 2) hx hb dX5_readsPeel_126 (by decide) ?_
      refine lv_iadd hx hb dX5_readsPeel_127 ?_
      refine lv_iload hx hb dX5_readsPeel_128 (lv_at hl 1 rfl) ?_
      obtain ⟨draft_130, e130, h⟩ := bd1_some h
      refine x_ast (ws' := (wX5 cI ad deeds finding asked upper lower m_at_90 wrong_90 rowSize rows textSize texts spare now draft_130 tried past kept keptPast keptDeeds findings worth)) hc hG 7 rfl e130 rfl dX5_readsPeel_130 (fun H locs hG => ?_)
      refine lv_aload_n hx hb dX5_readsPeel_131 rfl (lv_at hl 3 rfl) ?_
      refine x_get hc hG 0 rfl iX5 6 lX5_28 rfl dX5_readsPeel_132 ?_
      refine lv_iload_n hx hb dX5_readsPeel_135 rfl (lv_at hl 6 rfl) ?_
      refine lv_iconst (v := 3) hx hb dX5_readsPeel_136 (by decide) ?_
      refine lv_iadd hx hb dX5_readsPeel_137 ?_
      refine lv_iload hx hb dX5_readsPeel_138 (lv_at hl 0 rfl) ?_
      obtain ⟨draft_140, e140, h⟩ := bd1_some h
      refine x_ast (ws' := (wX5 cI ad deeds finding asked upper lower m_at_90 wrong_90 rowSize rows textSize texts spare now draft_140 tried past kept keptPast keptDeeds findings worth)) hc hG 7 rfl e140 rfl dX5_readsPeel_140 (fun H locs hG => ?_)
      refine lv_aload_n hx hb dX5_readsPeel_141 rfl (lv_at hl 3 rfl) ?_
      refine x_get hc hG 0 rfl iX5 6 lX5_28 rfl dX5_readsPeel_142 ?_
      refine lv_iconst (v := 1) hx hb dX5_readsPeel_145 (by decide) ?_
      refine lv_dup2_11 hx hb dX5_readsPeel_146 rfl rfl ?_
      obtain ⟨v147, e147, h⟩ := bd1_some h
      refine x_ald hc hG 7 rfl e147 dX5_readsPeel_147 ?_
      refine lv_iconst (v := 1) hx hb dX5_readsPeel_148 (by decide) ?_
      refine lv_iadd hx hb dX5_readsPeel_149 ?_
      obtain ⟨draft_150, e150, h⟩ := bd1_some h
      refine x_ast (ws' := (wX5 cI ad deeds finding asked upper lower m_at_90 wrong_90 rowSize rows textSize texts spare now draft_150 tried past kept keptPast keptDeeds findings worth)) hc hG 7 rfl e150 rfl dX5_readsPeel_150 (fun H locs hG => ?_)
      cases h
      exact hret _ _ _ _ hG dX5_readsPeel_151
  have hj_52 : ∀ (m_at : Int32) (wrong : Int32) (draft : Nat → Int32) (x1 : Int32) (x2 : Int32) (x3 : Int32) , fX5_readsPeel_j52 m_at wrong textSize texts draft x1 x2 x3 = some (m_at', wrong', draft') → ∀ (ls : Array Slot) (H : Heap) (locs : List Loc), lv_has ls 7 [(0, .ref (ad 0)), (1, .int x1), (2, .int x2), (3, .int x3)] → St D A s (wX5 cI ad deeds finding asked upper lower m_at wrong rowSize rows textSize texts spare now draft tried past kept keptPast keptDeeds findings worth) H locs → W p l e rmX5_readsPeel s m AV below meth c H locs 0 0 Q (F0 m 52 ls []) := by
    intro m_at wrong draft x1 x2 x3 h ls H locs hl hG
    unfold fX5_readsPeel_j52 at h
    refine lv_aload_n hx hb dX5_readsPeel_52 rfl (lv_at hl 0 rfl) ?_
    refine lv_aload_n hx hb dX5_readsPeel_53 rfl (lv_at hl 0 rfl) ?_
    refine x_get hc hG 0 rfl iX5 18 lX5_84 rfl dX5_readsPeel_54 ?_
    obtain ⟨wrong_57, e57, h⟩ := bd1_some h
    refine x_vv (rest := []) (ws' := (wX5 cI ad deeds finding asked upper lower m_at wrong_57 rowSize rows textSize texts spare now draft tried past kept keptPast keptDeeds findings worth)) hc hG (cc_X5_fails ad deeds finding asked upper lower m_at wrong rowSize rows textSize texts spare now draft tried past kept keptPast keptDeeds findings worth m_at wrong_57 e57) [0, 1, 2, 3, 4, 5, 6, 7, 8, 9, 10, 11, 12, 13, 14] [] [0, 1, 2, 3, 4, 5, 6, 7, 8, 9, 10, 11, 12, 13, 14] rfl rfl rfl 0 rfl rfl lX5_93 ⟨rfl, rfl, by decide, by decide⟩ rfl hl.1 (Nat.le_of_ble_eq_true rfl) rfl dX5_readsPeel_57 (fun H locs hG => ?_)
    exact hj_60 _ _ _ _ _ _ h _ _ _ (lv_sub hl [0, 1, 2, 3] rfl) hG
  have hj_32 : ∀ (m_at : Int32) (wrong : Int32) (draft : Nat → Int32) (x1 : Int32) (x2 : Int32) (k0 : Int32) (k1 : Int32) (k2 : Int32) , fX5_readsPeel_j32 m_at wrong textSize texts draft x1 x2 k0 k1 k2 = some (m_at', wrong', draft') → ∀ (ls : Array Slot) (H : Heap) (locs : List Loc), lv_has ls 7 [(0, .ref (ad 0)), (1, .int x1), (2, .int x2)] → St D A s (wX5 cI ad deeds finding asked upper lower m_at wrong rowSize rows textSize texts spare now draft tried past kept keptPast keptDeeds findings worth) H locs → W p l e rmX5_readsPeel s m AV below meth c H locs 0 0 Q (F0 m 32 ls [.int k2, .int k1, .int k0]) := by
    intro m_at wrong draft x1 x2 k0 k1 k2 h ls H locs hl hG
    unfold fX5_readsPeel_j32 at h
    refine lv_imul hx hb dX5_readsPeel_32 ?_
    refine lv_iadd hx hb dX5_readsPeel_33 ?_
    refine lv_istore_n (lv' := [(3, .int (k0 + (k1 * k2))), (0, .ref (ad 0)), (1, .int x1), (2, .int x2)]) hx hb dX5_readsPeel_34 rfl hl (by decide) rfl (fun ls hl => ?_)
    refine lv_iload_n hx hb dX5_readsPeel_35 rfl (lv_at hl 3 rfl) ?_
    refine lv_bipush (v := (-9)) hx hb dX5_readsPeel_36 (by decide) ?_
    refine lv_icmp_eq (tgt := 52) hx hb dX5_readsPeel_38 (by decide) (fun c38 => ?_) (fun c38 => ?_)
    · rw [if_pos c38] at h
      exact hj_52 _ _ _ _ _ _ h _ _ _ (lv_sub hl [1, 2, 3, 0] rfl) hG
    · rw [if_neg c38] at h
      refine lv_aload_n hx hb dX5_readsPeel_41 rfl (lv_at hl 1 rfl) ?_
      refine x_get hc hG 0 rfl iX5 6 lX5_28 rfl dX5_readsPeel_42 ?_
      refine lv_iconst (v := 1) hx hb dX5_readsPeel_45 (by decide) ?_
      obtain ⟨v46, e46, h⟩ := bd1_some h
      refine x_ald hc hG 7 rfl e46 dX5_readsPeel_46 ?_
      refine lv_bipush (v := 6) hx hb dX5_readsPeel_47 (by decide) ?_
      refine lv_icmp_ne (tgt := 60) hx hb dX5_readsPeel_49 (by decide) (fun c49 => ?_) (fun c49 => ?_)
      · rw [if_neg c49] at h
        exact hj_60 _ _ _ _ _ _ h _ _ _ (lv_sub hl [1, 2, 3, 0] rfl) hG
      · rw [if_pos c49] at h
        exact hj_52 _ _ _ _ _ _ h _ _ _ (lv_sub hl [1, 2, 3, 0] rfl) hG
  unfold fX5_readsPeel at h
  refine lv_aload_n hx hb dX5_readsPeel_0 rfl (lv_at hl 0 rfl) ?_
  refine lv_iload_n hx hb dX5_readsPeel_1 rfl (lv_at hl 1 rfl) ?_
  obtain ⟨v2, e2, h⟩ := bd1_some h
  refine x_vi (rest := []) (ws' := (wX5 cI ad deeds finding asked upper lower m_at wrong rowSize rows textSize texts spare now draft tried past kept keptPast keptDeeds findings worth)) hc hG (cc_X5_look ad deeds finding asked upper lower m_at wrong rowSize rows textSize texts spare now draft tried past kept keptPast keptDeeds findings worth x1 v2 e2) [0, 1, 2, 3, 4, 5, 6, 7, 8, 9, 10, 11, 12, 13, 14] [] [0, 1, 2, 3, 4, 5, 6, 7, 8, 9, 10, 11, 12, 13, 14] rfl rfl rfl 0 rfl rfl lX5_90 ⟨rfl, rfl, by decide, by decide⟩ rfl hl.1 (Nat.le_of_ble_eq_true rfl) rfl dX5_readsPeel_2 (fun H locs hG => ?_)
  obtain ⟨v5, e5, h⟩ := bd1_some h
  refine x_si0 (rest := []) hc hG (cc_X5_kindOf v2 v5 e5) lX5_101 ⟨rfl, rfl, by decide, by decide⟩ rfl hl.1 (Nat.le_of_ble_eq_true rfl) rfl dX5_readsPeel_5 (fun H locs hG => ?_)
  refine lv_istore_n (lv' := [(2, .int v5), (0, .ref (ad 0)), (1, .int x1)]) hx hb dX5_readsPeel_8 rfl hl (by decide) rfl (fun ls hl => ?_)
  refine lv_iconst (v := 5) hx hb dX5_readsPeel_9 (by decide) ?_
  refine lv_iconst (v := 5) hx hb dX5_readsPeel_10 (by decide) ?_
  refine lv_aload_n hx hb dX5_readsPeel_11 rfl (lv_at hl 1 rfl) ?_
  refine x_get hc hG 0 rfl iX5 6 lX5_28 rfl dX5_readsPeel_12 ?_
  refine lv_iconst (v := 1) hx hb dX5_readsPeel_15 (by decide) ?_
  obtain ⟨v16, e16, h⟩ := bd1_some h
  refine x_ald hc hG 7 rfl e16 dX5_readsPeel_16 ?_
  refine lv_bipush (v := 6) hx hb dX5_readsPeel_17 (by decide) ?_
  refine lv_icmp_ge (tgt := 31) hx hb dX5_readsPeel_19 (by decide) (fun c19 => ?_) (fun c19 => ?_)
  · rw [if_pos c19] at h
    refine lv_iconst (v := 0) hx hb dX5_readsPeel_31 (by decide) ?_
    exact hj_32 _ _ _ _ _ _ _ _ h _ _ _ (lv_sub hl [1, 2, 0] rfl) hG
  · rw [if_neg c19] at h
    refine lv_aload_n hx hb dX5_readsPeel_22 rfl (lv_at hl 1 rfl) ?_
    refine x_get hc hG 0 rfl iX5 6 lX5_28 rfl dX5_readsPeel_23 ?_
    refine lv_iconst (v := 1) hx hb dX5_readsPeel_26 (by decide) ?_
    obtain ⟨v27, e27, h⟩ := bd1_some h
    refine x_ald hc hG 7 rfl e27 dX5_readsPeel_27 ?_
    refine lv_goto (tgt := 32) hx hb dX5_readsPeel_28 (by decide) ?_
    exact hj_32 _ _ _ _ _ _ _ _ h _ _ _ (lv_sub hl [1, 2, 0] rfl) hG
set_option maxRecDepth 100000 in
set_option maxHeartbeats 4000000 in
theorem cc_X5_reads0 {l : Launch} {D : va_G} {cI : ClassId} {tL : Nat} (ad : Nat → Nat) (deeds : Int32) (finding : Int32) (asked : Int32) (upper : Int64) (lower : Int64) (m_at : Int32) (wrong : Int32) (rowSize : Nat → Int32) (rows : Nat → Int32) (textSize : Nat → Int32) (texts : Nat → Int32) (spare : Nat → Int32) (now : Nat → Int32) (draft : Nat → Int32) (tried : Nat → Int32) (past : Nat → Int32) (kept : Nat → Int32) (keptPast : Nat → Int32) (keptDeeds : Nat → Int32) (findings : Nat → Int32) (worth : Nat → Int32) (x1 : Int32) (r' : Int32) (m_at' : Int32) (wrong' : Int32) (draft' : Nat → Int32) (h : fX5_reads0 textSize texts draft x1 = some (r', m_at', wrong', draft')) : Ci l D cI tL yX5_reads0 cX5_reads0 3 .int rmX5_reads0 (wX5 cI ad deeds finding asked upper lower m_at wrong rowSize rows textSize texts spare now draft tried past kept keptPast keptDeeds findings worth) [.ref (ad 0), .int x1] r' (wX5 cI ad deeds finding asked upper lower m_at' wrong' rowSize rows textSize texts spare now draft' tried past kept keptPast keptDeeds findings worth) := by
  refine Ci_of (own := RX5) (by decide) (Nat.le_of_ble_eq_true rfl) rfl ?_
  intro p e s m below meth c Q A AV hc hret ls hl hG
  obtain ⟨hx, hb, hml, hown, hts, hK, hA, hz⟩ := id hc
  have hl : lv_has ls 3 [(0, .ref (ad 0)), (1, .int x1)] := hl
  have hL_2 : ∀ (m_at : Int32) (wrong : Int32) (x1 : Int32) (draft_o : Nat → Int32), (∀ (ls : Array Slot) (H : Heap) (locs : List Loc), lv_has ls 3 [(0, .ref (ad 0)), (1, .int x1)] → St D A s (wX5 cI ad deeds finding asked upper lower m_at wrong rowSize rows textSize texts spare now draft_o tried past kept keptPast keptDeeds findings worth) H locs → W p l e rmX5_reads0 s m AV below meth c H locs 0 0 Q (F0 m 21 ls [])) → ∀ (n : Nat) (draft : Nat → Int32) (x2 : Int32), fX5_reads0_L2 n draft x2 = some draft_o → ∀ (ls : Array Slot) (H : Heap) (locs : List Loc), lv_has ls 3 [(0, .ref (ad 0)), (1, .int x1), (2, .int x2)] → St D A s (wX5 cI ad deeds finding asked upper lower m_at wrong rowSize rows textSize texts spare now draft tried past kept keptPast keptDeeds findings worth) H locs → W p l e rmX5_reads0 s m AV below meth c H locs 0 0 Q (F0 m 2 ls []) := by
    intro m_at wrong x1 draft_o KE n
    induction n with
    | zero =>
      intro draft x2 h
      exact nomatch (show none = some _ from h)
    | succ n ih =>
      intro draft x2 h ls H locs hl hG
      have h : fX5_reads0_B2 (fX5_reads0_L2 n) draft x2 = some draft_o := h
      unfold fX5_reads0_B2 at h
      refine lv_iload_n hx hb dX5_reads0_2 rfl (lv_at hl 2 rfl) ?_
      refine lv_bipush (v := 35) hx hb dX5_reads0_3 (by decide) ?_
      refine lv_icmp_ge (tgt := 21) hx hb dX5_reads0_5 (by decide) (fun c5 => ?_) (fun c5 => ?_)
      · rw [if_pos c5] at h
        cases h
        exact KE _ _ _ (lv_sub hl [0, 1] rfl) hG
      · rw [if_neg c5] at h
        refine lv_aload_n hx hb dX5_reads0_8 rfl (lv_at hl 0 rfl) ?_
        refine x_get hc hG 0 rfl iX5 6 lX5_28 rfl dX5_reads0_9 ?_
        refine lv_iload_n hx hb dX5_reads0_12 rfl (lv_at hl 2 rfl) ?_
        refine lv_iconst (v := 0) hx hb dX5_reads0_13 (by decide) ?_
        obtain ⟨draft_14, e14, h⟩ := bd1_some h
        refine x_ast (ws' := (wX5 cI ad deeds finding asked upper lower m_at wrong rowSize rows textSize texts spare now draft_14 tried past kept keptPast keptDeeds findings worth)) hc hG 7 rfl e14 rfl dX5_reads0_14 (fun H locs hG => ?_)
        refine lv_iinc (v := (x2 + 1)) (lv' := [(2, .int (x2 + 1)), (0, .ref (ad 0)), (1, .int x1)]) hx hb dX5_reads0_15 hl (k := 2) rfl rfl (by decide) rfl (fun ls hl => ?_)
        refine lv_goto (tgt := 2) hx hb dX5_reads0_18 (by decide) ?_
        exact ih _ _ h _ _ _ (lv_sub hl [1, 2, 0] rfl) hG
  have hL_62 : ∀ (x1 : Int32) (m_at_o : Int32) (wrong_o : Int32) (draft_o : Nat → Int32), (∀ (ls : Array Slot) (H : Heap) (locs : List Loc), lv_has ls 3 [(0, .ref (ad 0)), (1, .int x1)] → St D A s (wX5 cI ad deeds finding asked upper lower m_at_o wrong_o rowSize rows textSize texts spare now draft_o tried past kept keptPast keptDeeds findings worth) H locs → W p l e rmX5_reads0 s m AV below meth c H locs 0 0 Q (F0 m 95 ls [])) → ∀ (n : Nat) (m_at : Int32) (wrong : Int32) (draft : Nat → Int32), fX5_reads0_L62 textSize texts x1 n m_at wrong draft = some (m_at_o, wrong_o, draft_o) → ∀ (ls : Array Slot) (H : Heap) (locs : List Loc), lv_has ls 3 [(0, .ref (ad 0)), (1, .int x1)] → St D A s (wX5 cI ad deeds finding asked upper lower m_at wrong rowSize rows textSize texts spare now draft tried past kept keptPast keptDeeds findings worth) H locs → W p l e rmX5_reads0 s m AV below meth c H locs 0 0 Q (F0 m 62 ls []) := by
    intro x1 m_at_o wrong_o draft_o KE n
    induction n with
    | zero =>
      intro m_at wrong draft h
      exact nomatch (show none = some _ from h)
    | succ n ih =>
      intro m_at wrong draft h ls H locs hl hG
      have h : fX5_reads0_B62 textSize texts x1 (fX5_reads0_L62 textSize texts x1 n) m_at wrong draft = some (m_at_o, wrong_o, draft_o) := h
      unfold fX5_reads0_B62 at h
      refine lv_aload_n hx hb dX5_reads0_62 rfl (lv_at hl 0 rfl) ?_
      refine x_get hc hG 0 rfl iX5 19 lX5_87 rfl dX5_reads0_63 ?_
      refine lv_bipush (v := (-9)) hx hb dX5_reads0_66 (by decide) ?_
      refine lv_icmp_ne (tgt := 95) hx hb dX5_reads0_68 (by decide) (fun c68 => ?_) (fun c68 => ?_)
      · rw [if_neg c68] at h
        cases h
        exact KE _ _ _ (lv_sub hl [0, 1] rfl) hG
      · rw [if_pos c68] at h
        refine lv_aload_n hx hb dX5_reads0_71 rfl (lv_at hl 0 rfl) ?_
        refine lv_iload_n hx hb dX5_reads0_72 rfl (lv_at hl 1 rfl) ?_
        obtain ⟨v73, e73, h⟩ := bd1_some h
        refine x_vi (rest := []) (ws' := (wX5 cI ad deeds finding asked upper lower m_at wrong rowSize rows textSize texts spare now draft tried past kept keptPast keptDeeds findings worth)) hc hG (cc_X5_look ad deeds finding asked upper lower m_at wrong rowSize rows textSize texts spare now draft tried past kept keptPast keptDeeds findings worth x1 v73 e73) [0, 1, 2, 3, 4, 5, 6, 7, 8, 9, 10, 11, 12, 13, 14] [] [0, 1, 2, 3, 4, 5, 6, 7, 8, 9, 10, 11, 12, 13, 14] rfl rfl rfl 0 rfl rfl lX5_90 ⟨rfl, rfl, by decide, by decide⟩ rfl hl.1 (Nat.le_of_ble_eq_true rfl) rfl dX5_reads0_73 (fun H locs hG => ?_)
        refine lv_sipush (v := (-1000)) hx hb dX5_reads0_76 (by decide) ?_
        refine lv_icmp_eq (tgt := 95) hx hb dX5_reads0_79 (by decide) (fun c79 => ?_) (fun c79 => ?_)
        · rw [if_pos c79] at h
          cases h
          exact KE _ _ _ (lv_sub hl [0, 1] rfl) hG
        · rw [if_neg c79] at h
          refine lv_aload_n hx hb dX5_reads0_82 rfl (lv_at hl 0 rfl) ?_
          refine lv_iload_n hx hb dX5_reads0_83 rfl (lv_at hl 1 rfl) ?_
          obtain ⟨m_at_84, wrong_84, draft_84, e84, h⟩ := bd3_some h
          refine x_vv (rest := []) (ws' := (wX5 cI ad deeds finding asked upper lower m_at_84 wrong_84 rowSize rows textSize texts spare now draft_84 tried past kept keptPast keptDeeds findings worth)) hc hG (cc_X5_readsPeel ad deeds finding asked upper lower m_at wrong rowSize rows textSize texts spare now draft tried past kept keptPast keptDeeds findings worth x1 m_at_84 wrong_84 draft_84 e84) [0, 1, 2, 3, 4, 5, 6, 7, 8, 9, 10, 11, 12, 13, 14] [] [0, 1, 2, 3, 4, 5, 6, 7, 8, 9, 10, 11, 12, 13, 14] rfl rfl rfl 0 rfl rfl lX5_114 ⟨rfl, rfl, by decide, by decide⟩ rfl hl.1 (Nat.le_of_ble_eq_true rfl) rfl dX5_reads0_84 (fun H locs hG => ?_)
          refine lv_aload_n hx hb dX5_reads0_87 rfl (lv_at hl 0 rfl) ?_
          refine lv_iload_n hx hb dX5_reads0_88 rfl (lv_at hl 1 rfl) ?_
          obtain ⟨m_at_89, e89, h⟩ := bd1_some h
          refine x_vv (rest := []) (ws' := (wX5 cI ad deeds finding asked upper lower m_at_89 wrong_84 rowSize rows textSize texts spare now draft_84 tried past kept keptPast keptDeeds findings worth)) hc hG (cc_X5_blanks ad deeds finding asked upper lower m_at_84 wrong_84 rowSize rows textSize texts spare now draft_84 tried past kept keptPast keptDeeds findings worth x1 m_at_89 e89) [0, 1, 2, 3, 4, 5, 6, 7, 8, 9, 10, 11, 12, 13, 14] [] [0, 1, 2, 3, 4, 5, 6, 7, 8, 9, 10, 11, 12, 13, 14] rfl rfl rfl 0 rfl rfl lX5_107 ⟨rfl, rfl, by decide, by decide⟩ rfl hl.1 (Nat.le_of_ble_eq_true rfl) rfl dX5_reads0_89 (fun H locs hG => ?_)
          refine lv_goto (tgt := 62) hx hb dX5_reads0_92 (by decide) ?_
          exact ih _ _ _ h _ _ _ (lv_sub hl [0, 1] rfl) hG
  have hj_123 : ∀ (m_at : Int32) (wrong : Int32) (draft : Nat → Int32) , fX5_reads0_j123 m_at wrong draft = some (r', m_at', wrong', draft') → ∀ (ls : Array Slot) (H : Heap) (locs : List Loc), lv_has ls 3 [(0, .ref (ad 0))] → St D A s (wX5 cI ad deeds finding asked upper lower m_at wrong rowSize rows textSize texts spare now draft tried past kept keptPast keptDeeds findings worth) H locs → W p l e rmX5_reads0 s m AV below meth c H locs 0 0 Q (F0 m 123 ls []) := by
    intro m_at wrong draft h ls H locs hl hG
    unfold fX5_reads0_j123 at h
    refine lv_aload_n hx hb dX5_reads0_123 rfl (lv_at hl 0 rfl) ?_
    refine x_get hc hG 0 rfl iX5 19 lX5_87 rfl dX5_reads0_124 ?_
    cases h
    exact hret _ _ _ _ hG dX5_reads0_127 rfl
  unfold fX5_reads0 at h
  refine lv_iconst (v := 0) hx hb dX5_reads0_0 (by decide) ?_
  refine lv_istore_n (lv' := [(2, .int 0), (0, .ref (ad 0)), (1, .int x1)]) hx hb dX5_reads0_1 rfl hl (by decide) rfl (fun ls hl => ?_)
  obtain ⟨draft_L2, e2, h⟩ := bd1_some h
  refine hL_2 _ _ _ _ (fun ls H locs hl hG => ?_) _ _ _ e2 _ _ _ (lv_sub hl [1, 2, 0] rfl) hG
  refine lv_aload_n hx hb dX5_reads0_21 rfl (lv_at hl 0 rfl) ?_
  refine lv_iconst (v := 0) hx hb dX5_reads0_22 (by decide) ?_
  refine x_put (ws' := (wX5 cI ad deeds finding asked upper lower 0 wrong rowSize rows textSize texts spare now draft_L2 tried past kept keptPast keptDeeds findings worth)) hc hG 0 rfl iX5 tyX5 tyX5_ok nmX5 18 lX5_84 rfl rfl rfl (Nat.le_of_ble_eq_true rfl) rfl dX5_reads0_23 (fun H locs hG => ?_)
  refine lv_aload_n hx hb dX5_reads0_26 rfl (lv_at hl 0 rfl) ?_
  refine lv_bipush (v := (-9)) hx hb dX5_reads0_27 (by decide) ?_
  refine x_put (ws' := (wX5 cI ad deeds finding asked upper lower 0 (-9) rowSize rows textSize texts spare now draft_L2 tried past kept keptPast keptDeeds findings worth)) hc hG 0 rfl iX5 tyX5 tyX5_ok nmX5 19 lX5_87 rfl rfl rfl (Nat.le_of_ble_eq_true rfl) rfl dX5_reads0_29 (fun H locs hG => ?_)
  refine lv_aload_n hx hb dX5_reads0_32 rfl (lv_at hl 0 rfl) ?_
  refine lv_iload_n hx hb dX5_reads0_33 rfl (lv_at hl 1 rfl) ?_
  obtain ⟨m_at_34, e34, h⟩ := bd1_some h
  refine x_vv (rest := []) (ws' := (wX5 cI ad deeds finding asked upper lower m_at_34 (-9) rowSize rows textSize texts spare now draft_L2 tried past kept keptPast keptDeeds findings worth)) hc hG (cc_X5_blanks ad deeds finding asked upper lower 0 (-9) rowSize rows textSize texts spare now draft_L2 tried past kept keptPast keptDeeds findings worth x1 m_at_34 e34) [0, 1, 2, 3, 4, 5, 6, 7, 8, 9, 10, 11, 12, 13, 14] [] [0, 1, 2, 3, 4, 5, 6, 7, 8, 9, 10, 11, 12, 13, 14] rfl rfl rfl 0 rfl rfl lX5_107 ⟨rfl, rfl, by decide, by decide⟩ rfl hl.1 (Nat.le_of_ble_eq_true rfl) rfl dX5_reads0_34 (fun H locs hG => ?_)
  refine lv_aload_n hx hb dX5_reads0_37 rfl (lv_at hl 0 rfl) ?_
  refine lv_iload_n hx hb dX5_reads0_38 rfl (lv_at hl 1 rfl) ?_
  refine lv_bipush (v := 110) hx hb dX5_reads0_39 (by decide) ?_
  obtain ⟨m_at_41, wrong_41, e41, h⟩ := bd2_some h
  refine x_vv (rest := []) (ws' := (wX5 cI ad deeds finding asked upper lower m_at_41 wrong_41 rowSize rows textSize texts spare now draft_L2 tried past kept keptPast keptDeeds findings worth)) hc hG (cc_X5_letter ad deeds finding asked upper lower m_at_34 (-9) rowSize rows textSize texts spare now draft_L2 tried past kept keptPast keptDeeds findings worth x1 110 m_at_41 wrong_41 e41) [0, 1, 2, 3, 4, 5, 6, 7, 8, 9, 10, 11, 12, 13, 14] [] [0, 1, 2, 3, 4, 5, 6, 7, 8, 9, 10, 11, 12, 13, 14] rfl rfl rfl 0 rfl rfl lX5_110 ⟨rfl, rfl, by decide, by decide⟩ rfl hl.1 (Nat.le_of_ble_eq_true rfl) rfl dX5_reads0_41 (fun H locs hG => ?_)
  refine lv_aload_n hx hb dX5_reads0_44 rfl (lv_at hl 0 rfl) ?_
  refine x_get hc hG 0 rfl iX5 6 lX5_28 rfl dX5_reads0_45 ?_
  refine lv_iconst (v := 0) hx hb dX5_reads0_48 (by decide) ?_
  refine lv_aload_n hx hb dX5_reads0_49 rfl (lv_at hl 0 rfl) ?_
  refine lv_iload_n hx hb dX5_reads0_50 rfl (lv_at hl 1 rfl) ?_
  refine lv_iconst (v := 1) hx hb dX5_reads0_51 (by decide) ?_
  refine lv_iconst (v := 4) hx hb dX5_reads0_52 (by decide) ?_
  obtain ⟨v53, m_at_53, wrong_53, e53, h⟩ := bd3_some h
  refine x_vi (rest := [.int 0, .ref (ad 7)]) (ws' := (wX5 cI ad deeds finding asked upper lower m_at_53 wrong_53 rowSize rows textSize texts spare now draft_L2 tried past kept keptPast keptDeeds findings worth)) hc hG (cc_X5_figure ad deeds finding asked upper lower m_at_41 wrong_41 rowSize rows textSize texts spare now draft_L2 tried past kept keptPast keptDeeds findings worth x1 1 4 v53 m_at_53 wrong_53 e53) [0, 1, 2, 3, 4, 5, 6, 7, 8, 9, 10, 11, 12, 13, 14] [] [0, 1, 2, 3, 4, 5, 6, 7, 8, 9, 10, 11, 12, 13, 14] rfl rfl rfl 0 rfl rfl lX5_97 ⟨rfl, rfl, by decide, by decide⟩ rfl hl.1 (Nat.le_of_ble_eq_true rfl) rfl dX5_reads0_53 (fun H locs hG => ?_)
  obtain ⟨draft_56, e56, h⟩ := bd1_some h
  refine x_ast (ws' := (wX5 cI ad deeds finding asked upper lower m_at_53 wrong_53 rowSize rows textSize texts spare now draft_56 tried past kept keptPast keptDeeds findings worth)) hc hG 7 rfl e56 rfl dX5_reads0_56 (fun H locs hG => ?_)
  refine lv_aload_n hx hb dX5_reads0_57 rfl (lv_at hl 0 rfl) ?_
  refine lv_iload_n hx hb dX5_reads0_58 rfl (lv_at hl 1 rfl) ?_
  obtain ⟨m_at_59, e59, h⟩ := bd1_some h
  refine x_vv (rest := []) (ws' := (wX5 cI ad deeds finding asked upper lower m_at_59 wrong_53 rowSize rows textSize texts spare now draft_56 tried past kept keptPast keptDeeds findings worth)) hc hG (cc_X5_blanks ad deeds finding asked upper lower m_at_53 wrong_53 rowSize rows textSize texts spare now draft_56 tried past kept keptPast keptDeeds findings worth x1 m_at_59 e59) [0, 1, 2, 3, 4, 5, 6, 7, 8, 9, 10, 11, 12, 13, 14] [] [0, 1, 2, 3, 4, 5, 6, 7, 8, 9, 10, 11, 12, 13, 14] rfl rfl rfl 0 rfl rfl lX5_107 ⟨rfl, rfl, by decide, by decide⟩ rfl hl.1 (Nat.le_of_ble_eq_true rfl) rfl dX5_reads0_59 (fun H locs hG => ?_)
  obtain ⟨m_at_L62, wrong_L62, draft_L62, e62, h⟩ := bd3_some h
  refine hL_62 _ _ _ _ (fun ls H locs hl hG => ?_) _ _ _ _ e62 _ _ _ (lv_sub hl [0, 1] rfl) hG
  refine lv_aload_n hx hb dX5_reads0_95 rfl (lv_at hl 0 rfl) ?_
  refine x_get hc hG 0 rfl iX5 19 lX5_87 rfl dX5_reads0_96 ?_
  refine lv_bipush (v := (-9)) hx hb dX5_reads0_99 (by decide) ?_
  refine lv_icmp_ne (tgt := 123) hx hb dX5_reads0_101 (by decide) (fun c101 => ?_) (fun c101 => ?_)
  · rw [if_neg c101] at h
    exact hj_123 _ _ _ h _ _ _ (lv_sub hl [0] rfl) hG
  · rw [if_pos c101] at h
    refine lv_aload_n hx hb dX5_reads0_104 rfl (lv_at hl 0 rfl) ?_
    refine x_get hc hG 0 rfl iX5 6 lX5_28 rfl dX5_reads0_105 ?_
    refine lv_iconst (v := 1) hx hb dX5_reads0_108 (by decide) ?_
    obtain ⟨v109, e109, h⟩ := bd1_some h
    refine x_ald hc hG 7 rfl e109 dX5_reads0_109 ?_
    refine lv_if_ne (tgt := 123) hx hb dX5_reads0_110 (by decide) (fun c110 => ?_) (fun c110 => ?_)
    · rw [if_neg c110] at h
      exact hj_123 _ _ _ h _ _ _ (lv_sub hl [0] rfl) hG
    · rw [if_pos c110] at h
      refine lv_aload_n hx hb dX5_reads0_113 rfl (lv_at hl 0 rfl) ?_
      refine lv_aload_n hx hb dX5_reads0_114 rfl (lv_at hl 0 rfl) ?_
      refine x_get hc hG 0 rfl iX5 2 lX5_16 rfl dX5_reads0_115 ?_
      refine lv_iload_n hx hb dX5_reads0_118 rfl (lv_at hl 1 rfl) ?_
      obtain ⟨v119, e119, h⟩ := bd1_some h
      refine x_ald hc hG 3 rfl e119 dX5_reads0_119 ?_
      obtain ⟨wrong_120, e120, h⟩ := bd1_some h
      refine x_vv (rest := []) (ws' := (wX5 cI ad deeds finding asked upper lower m_at_L62 wrong_120 rowSize rows textSize texts spare now draft_L62 tried past kept keptPast keptDeeds findings worth)) hc hG (cc_X5_fails ad deeds finding asked upper lower m_at_L62 wrong_L62 rowSize rows textSize texts spare now draft_L62 tried past kept keptPast keptDeeds findings worth v119 wrong_120 e120) [0, 1, 2, 3, 4, 5, 6, 7, 8, 9, 10, 11, 12, 13, 14] [] [0, 1, 2, 3, 4, 5, 6, 7, 8, 9, 10, 11, 12, 13, 14] rfl rfl rfl 0 rfl rfl lX5_93 ⟨rfl, rfl, by decide, by decide⟩ rfl hl.1 (Nat.le_of_ble_eq_true rfl) rfl dX5_reads0_120 (fun H locs hG => ?_)
      exact hj_123 _ _ _ h _ _ _ (lv_sub hl [0] rfl) hG
