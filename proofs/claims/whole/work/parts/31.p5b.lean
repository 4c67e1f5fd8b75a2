set_option maxRecDepth 100000 in
set_option maxHeartbeats 4000000 in
theorem cc_X5_fault {l : Launch} {D : va_G} {cI : ClassId} {tL : Nat} (ad : Nat → Nat) (deeds : Int32) (finding : Int32) (asked : Int32) (upper : Int64) (lower : Int64) (m_at : Int32) (wrong : Int32) (rowSize : Nat → Int32) (rows : Nat → Int32) (textSize : Nat → Int32) (texts : Nat → Int32) (spare : Nat → Int32) (now : Nat → Int32) (draft : Nat → Int32) (tried : Nat → Int32) (past : Nat → Int32) (kept : Nat → Int32) (keptPast : Nat → Int32) (keptDeeds : Nat → Int32) (findings : Nat → Int32) (worth : Nat → Int32) (x1 : Int32) (r' : Int32) (finding' : Int32) (m_at' : Int32) (wrong' : Int32) (draft' : Nat → Int32) (findings' : Nat → Int32) (h : fX5_fault finding m_at wrong textSize texts draft findings x1 = some (r', finding', m_at', wrong', draft', findings')) : Ci l D cI tL yX5_fault cX5_fault 2 .int rmX5_fault (wX5 cI ad deeds finding asked upper lower m_at wrong rowSize rows textSize texts spare now draft tried past kept keptPast keptDeeds findings worth) [.ref (ad 0), .int x1] r' (wX5 cI ad deeds finding' asked upper lower m_at' wrong' rowSize rows textSize texts spare now draft' tried past kept keptPast keptDeeds findings' worth) := by
  refine Ci_of (own := RX5) (by decide) (Nat.le_of_ble_eq_true rfl) rfl ?_
  intro p e s m below meth c Q A AV hc hret ls hl hG
  obtain ⟨hx, hb, hml, hown, hts, hK, hA, hz⟩ := id hc
  have hl : lv_has ls 2 [(0, .ref (ad 0)), (1, .int x1)] := hl
  unfold fX5_fault at h
  refine lv_iload_n hx hb dX5_fault_0 rfl (lv_at hl 1 rfl) ?_
  obtain ⟨v1, e1, h⟩ := bd1_some h
  refine x_si0 (rest := []) hc hG (cc_X5_isText x1 v1 e1) lX5_81 ⟨rfl, rfl, by decide, by decide⟩ rfl hl.1 (Nat.le_of_ble_eq_true rfl) rfl dX5_fault_1 (fun H locs hG => ?_)
  refine lv_if_ne (tgt := 9) hx hb dX5_fault_4 (by decide) (fun c4 => ?_) (fun c4 => ?_)
  · rw [if_neg c4] at h
    refine lv_aload_n hx hb dX5_fault_9 rfl (lv_at hl 0 rfl) ?_
    refine x_get hc hG 0 rfl iX5 2 lX5_16 rfl dX5_fault_10 ?_
    refine lv_iload_n hx hb dX5_fault_13 rfl (lv_at hl 1 rfl) ?_
    obtain ⟨v14, e14, h⟩ := bd1_some h
    refine x_ald hc hG 3 rfl e14 dX5_fault_14 ?_
    refine lv_bipush (v := (-9)) hx hb dX5_fault_15 (by decide) ?_
    refine lv_icmp_ne (tgt := 28) hx hb dX5_fault_17 (by decide) (fun c17 => ?_) (fun c17 => ?_)
    · rw [if_neg c17] at h
      refine lv_aload_n hx hb dX5_fault_28 rfl (lv_at hl 0 rfl) ?_
      refine lv_iload_n hx hb dX5_fault_29 rfl (lv_at hl 1 rfl) ?_
      obtain ⟨v30, m_at_30, wrong_30, draft_30, e30, h⟩ := bd4_some h
      refine x_vi (rest := []) (ws' := (wX5 cI ad deeds finding asked upper lower m_at_30 wrong_30 rowSize rows textSize texts spare now draft_30 tried past kept keptPast keptDeeds findings worth)) hc hG (cc_X5_reads0 ad deeds finding asked upper lower m_at wrong rowSize rows textSize texts spare now draft tried past kept keptPast keptDeeds findings worth x1 v30 m_at_30 wrong_30 draft_30 e30) [0, 1, 2, 3, 4, 5, 6, 7, 8, 9, 10, 11, 12, 13, 14] [] [0, 1, 2, 3, 4, 5, 6, 7, 8, 9, 10, 11, 12, 13, 14] rfl rfl rfl 0 rfl rfl lX5_117 ⟨rfl, rfl, by decide, by decide⟩ rfl hl.1 (Nat.le_of_ble_eq_true rfl) rfl dX5_fault_30 (fun H locs hG => ?_)
      cases h
      exact hret _ _ _ _ hG dX5_fault_33 rfl
    · rw [if_pos c17] at h
      refine lv_aload_n hx hb dX5_fault_20 rfl (lv_at hl 0 rfl) ?_
      refine lv_iconst (v := 1) hx hb dX5_fault_21 (by decide) ?_
      obtain ⟨v22, finding_22, findings_22, e22, h⟩ := bd3_some h
      refine x_vi (rest := []) (ws' := (wX5 cI ad deeds finding_22 asked upper lower m_at wrong rowSize rows textSize texts spare now draft tried past kept keptPast keptDeeds findings_22 worth)) hc hG (cc_X5_found0 ad deeds finding asked upper lower m_at wrong rowSize rows textSize texts spare now draft tried past kept keptPast keptDeeds findings worth 1 v22 finding_22 findings_22 e22) [0, 1, 2, 3, 4, 5, 6, 7, 8, 9, 10, 11, 12, 13, 14] [] [0, 1, 2, 3, 4, 5, 6, 7, 8, 9, 10, 11, 12, 13, 14] rfl rfl rfl 0 rfl rfl lX5_71 ⟨rfl, rfl, by decide, by decide⟩ rfl hl.1 (Nat.le_of_ble_eq_true rfl) rfl dX5_fault_22 (fun H locs hG => ?_)
      refine lv_goto (tgt := 33) hx hb dX5_fault_25 (by decide) ?_
      cases h
      exact hret _ _ _ _ hG dX5_fault_33 rfl
  · rw [if_pos c4] at h
    refine lv_iconst (v := (-1)) hx hb dX5_fault_7 (by decide) ?_
    cases h
    exact hret _ _ _ _ hG dX5_fault_8 rfl
set_option maxRecDepth 100000 in
set_option maxHeartbeats 4000000 in
theorem cc_X5_copies {l : Launch} {D : va_G} {cI : ClassId} {tL : Nat} (ad : Nat → Nat) (n0 : Nat) (n1 : Nat) (a0 : Nat → Int32) (a1 : Nat → Int32) (x1 : Int32) (x3 : Int32) (x4 : Int32) (a1' : Nat → Int32) (h : fX5_copies n0 n1 a0 a1 x1 x3 x4 = some a1') : Cv l D cI tL yX5_copies cX5_copies 6 rmX5_copies (wA2 cI ad n0 n1 a0 a1) [.ref (ad 0), .int x1, .ref (ad 1), .int x3, .int x4] (wA2 cI ad n0 n1 a0 a1') := by
  refine Cv_of (own := RX5) (by decide) (Nat.le_of_ble_eq_true rfl) rfl ?_
  intro p e s m below meth c Q A AV hc hret ls hl hG
  obtain ⟨hx, hb, hml, hown, hts, hK, hA, hz⟩ := id hc
  have hl : lv_has ls 6 [(0, .ref (ad 0)), (1, .int x1), (2, .ref (ad 1)), (3, .int x3), (4, .int x4)] := hl
  have hL_3 : ∀ (x1 : Int32) (x3 : Int32) (x4 : Int32) (a1_o : Nat → Int32), (∀ (ls : Array Slot) (H : Heap) (locs : List Loc), lv_has ls 6 [(0, .ref (ad 0)), (2, .ref (ad 1))] → St D A s (wA2 cI ad n0 n1 a0 a1_o) H locs → W p l e rmX5_copies s m AV below meth c H locs 0 0 Q (F0 m 28 ls [])) → ∀ (n : Nat) (a1 : Nat → Int32) (x5 : Int32), fX5_copies_L3 n0 n1 a0 x1 x3 x4 n a1 x5 = some a1_o → ∀ (ls : Array Slot) (H : Heap) (locs : List Loc), lv_has ls 6 [(0, .ref (ad 0)), (1, .int x1), (2, .ref (ad 1)), (3, .int x3), (4, .int x4), (5, .int x5)] → St D A s (wA2 cI ad n0 n1 a0 a1) H locs → W p l e rmX5_copies s m AV below meth c H locs 0 0 Q (F0 m 3 ls []) := by
    intro x1 x3 x4 a1_o KE n
    induction n with
    | zero =>
      intro a1 x5 h
      exact nomatch (show none = some _ from h)
    | succ n ih =>
      intro a1 x5 h ls H locs hl hG
      have h : fX5_copies_B3 n0 n1 a0 x1 x3 x4 (fX5_copies_L3 n0 n1 a0 x1 x3 x4 n) a1 x5 = some a1_o := h
      unfold fX5_copies_B3 at h
      refine lv_iload hx hb dX5_copies_3 (lv_at hl 5 rfl) ?_
      refine lv_iload hx hb dX5_copies_5 (lv_at hl 4 rfl) ?_
      refine lv_icmp_ge (tgt := 28) hx hb dX5_copies_7 (by decide) (fun c7 => ?_) (fun c7 => ?_)
      · rw [if_pos c7] at h
        cases h
        exact KE _ _ _ (lv_sub hl [0, 2] rfl) hG
      · rw [if_neg c7] at h
        refine lv_aload_n hx hb dX5_copies_10 rfl (lv_at hl 2 rfl) ?_
        refine lv_iload_n hx hb dX5_copies_11 rfl (lv_at hl 3 rfl) ?_
        refine lv_iload hx hb dX5_copies_12 (lv_at hl 5 rfl) ?_
        refine lv_iadd hx hb dX5_copies_14 ?_
        refine lv_aload_n hx hb dX5_copies_15 rfl (lv_at hl 0 rfl) ?_
        refine lv_iload_n hx hb dX5_copies_16 rfl (lv_at hl 1 rfl) ?_
        refine lv_iload hx hb dX5_copies_17 (lv_at hl 5 rfl) ?_
        refine lv_iadd hx hb dX5_copies_19 ?_
        obtain ⟨v20, e20, h⟩ := bd1_some h
        refine x_ald hc hG 0 rfl e20 dX5_copies_20 ?_
        obtain ⟨a1_21, e21, h⟩ := bd1_some h
        refine x_ast (ws' := (wA2 cI ad n0 n1 a0 a1_21)) hc hG 1 rfl e21 rfl dX5_copies_21 (fun H locs hG => ?_)
        refine lv_iinc (v := (x5 + 1)) (lv' := [(5, .int (x5 + 1)), (0, .ref (ad 0)), (1, .int x1), (2, .ref (ad 1)), (3, .int x3), (4, .int x4)]) hx hb dX5_copies_22 hl (k := 5) rfl rfl (by decide) rfl (fun ls hl => ?_)
        refine lv_goto (tgt := 3) hx hb dX5_copies_25 (by decide) ?_
        exact ih _ _ h _ _ _ (lv_sub hl [1, 2, 3, 4, 5, 0] rfl) hG
  unfold fX5_copies at h
  refine lv_iconst (v := 0) hx hb dX5_copies_0 (by decide) ?_
  refine lv_istore (lv' := [(5, .int 0), (0, .ref (ad 0)), (1, .int x1), (2, .ref (ad 1)), (3, .int x3), (4, .int x4)]) hx hb dX5_copies_1 hl (by decide) rfl (fun ls hl => ?_)
  obtain ⟨a1_L3, e3, h⟩ := bd1_some h
  refine hL_3 _ _ _ _ (fun ls H locs hl hG => ?_) _ _ _ e3 _ _ _ (lv_sub hl [1, 2, 3, 4, 5, 0] rfl) hG
  cases h
  exact hret _ _ _ _ hG dX5_copies_28
set_option maxRecDepth 100000 in
set_option maxHeartbeats 4000000 in
theorem cc_X5_slice {l : Launch} {D : va_G} {cI : ClassId} {tL : Nat} (ad : Nat → Nat) (deeds : Int32) (finding : Int32) (asked : Int32) (upper : Int64) (lower : Int64) (m_at : Int32) (wrong : Int32) (rowSize : Nat → Int32) (rows : Nat → Int32) (textSize : Nat → Int32) (texts : Nat → Int32) (spare : Nat → Int32) (now : Nat → Int32) (draft : Nat → Int32) (tried : Nat → Int32) (past : Nat → Int32) (kept : Nat → Int32) (keptPast : Nat → Int32) (keptDeeds : Nat → Int32) (findings : Nat → Int32) (worth : Nat → Int32) (x1 : Int32) (r' : Int32) (deeds' : Int32) (finding' : Int32) (m_at' : Int32) (wrong' : Int32) (now' : Nat → Int32) (draft' : Nat → Int32) (keptDeeds' : Nat → Int32) (findings' : Nat → Int32) (h : fX5_slice deeds finding m_at wrong textSize texts now draft keptDeeds findings x1 = some (r', deeds', finding', m_at', wrong', now', draft', keptDeeds', findings')) : Ci l D cI tL yX5_slice cX5_slice 3 .int rmX5_slice (wX5 cI ad deeds finding asked upper lower m_at wrong rowSize rows textSize texts spare now draft tried past kept keptPast keptDeeds findings worth) [.ref (ad 0), .int x1] r' (wX5 cI ad deeds' finding' asked upper lower m_at' wrong' rowSize rows textSize texts spare now' draft' tried past kept keptPast keptDeeds' findings' worth) := by
  refine Ci_of (own := RX5) (by decide) (Nat.le_of_ble_eq_true rfl) rfl ?_
  intro p e s m below meth c Q A AV hc hret ls hl hG
  obtain ⟨hx, hb, hml, hown, hts, hK, hA, hz⟩ := id hc
  have hl : lv_has ls 3 [(0, .ref (ad 0)), (1, .int x1)] := hl
  have hL_61 : ∀ (deeds : Int32) (finding : Int32) (m_at : Int32) (wrong : Int32) (now : Nat → Int32) (draft : Nat → Int32) (findings : Nat → Int32) (keptDeeds_o : Nat → Int32), (∀ (ls : Array Slot) (H : Heap) (locs : List Loc), lv_has ls 3 [(0, .ref (ad 0))] → St D A s (wX5 cI ad deeds finding asked upper lower m_at wrong rowSize rows textSize texts spare now draft tried past kept keptPast keptDeeds_o findings worth) H locs → W p l e rmX5_slice s m AV below meth c H locs 0 0 Q (F0 m 80 ls [])) → ∀ (n : Nat) (keptDeeds : Nat → Int32) (x2 : Int32), fX5_slice_L61 n keptDeeds x2 = some keptDeeds_o → ∀ (ls : Array Slot) (H : Heap) (locs : List Loc), lv_has ls 3 [(0, .ref (ad 0)), (2, .int x2)] → St D A s (wX5 cI ad deeds finding asked upper lower m_at wrong rowSize rows textSize texts spare now draft tried past kept keptPast keptDeeds findings worth) H locs → W p l e rmX5_slice s m AV below meth c H locs 0 0 Q (F0 m 61 ls []) := by
    intro deeds finding m_at wrong now draft findings keptDeeds_o KE n
    induction n with
    | zero =>
      intro keptDeeds x2 h
      exact nomatch (show none = some _ from h)
    | succ n ih =>
      intro keptDeeds x2 h ls H locs hl hG
      have h : fX5_slice_B61 (fX5_slice_L61 n) keptDeeds x2 = some keptDeeds_o := h
      unfold fX5_slice_B61 at h
      refine lv_iload_n hx hb dX5_slice_61 rfl (lv_at hl 1 rfl) ?_
      refine lv_iconst (v := 3) hx hb dX5_slice_62 (by decide) ?_
      refine lv_icmp_ge (tgt := 80) hx hb dX5_slice_63 (by decide) (fun c63 => ?_) (fun c63 => ?_)
      · rw [if_pos c63] at h
        cases h
        exact KE _ _ _ (lv_sub hl [0] rfl) hG
      · rw [if_neg c63] at h
        refine lv_aload_n hx hb dX5_slice_66 rfl (lv_at hl 0 rfl) ?_
        refine x_get hc hG 0 rfl iX5 12 lX5_43 rfl dX5_slice_67 ?_
        refine lv_iload_n hx hb dX5_slice_70 rfl (lv_at hl 1 rfl) ?_
        refine lv_bipush (v := (-9)) hx hb dX5_slice_71 (by decide) ?_
        obtain ⟨keptDeeds_73, e73, h⟩ := bd1_some h
        refine x_ast (ws' := (wX5 cI ad deeds finding asked upper lower m_at wrong rowSize rows textSize texts spare now draft tried past kept keptPast keptDeeds_73 findings worth)) hc hG 12 rfl e73 rfl dX5_slice_73 (fun H locs hG => ?_)
        refine lv_iinc (v := (x2 + 1)) (lv' := [(2, .int (x2 + 1)), (0, .ref (ad 0))]) hx hb dX5_slice_74 hl (k := 1) rfl rfl (by decide) rfl (fun ls hl => ?_)
        refine lv_goto (tgt := 61) hx hb dX5_slice_77 (by decide) ?_
        exact ih _ _ h _ _ _ (lv_sub hl [1, 0] rfl) hG
  unfold fX5_slice at h
  refine lv_iload_n hx hb dX5_slice_0 rfl (lv_at hl 1 rfl) ?_
  obtain ⟨v1, e1, h⟩ := bd1_some h
  refine x_si0 (rest := []) hc hG (cc_X5_isText x1 v1 e1) lX5_81 ⟨rfl, rfl, by decide, by decide⟩ rfl hl.1 (Nat.le_of_ble_eq_true rfl) rfl dX5_slice_1 (fun H locs hG => ?_)
  refine lv_if_ne (tgt := 9) hx hb dX5_slice_4 (by decide) (fun c4 => ?_) (fun c4 => ?_)
  · rw [if_neg c4] at h
    refine lv_aload_n hx hb dX5_slice_9 rfl (lv_at hl 0 rfl) ?_
    refine x_get hc hG 0 rfl iX5 2 lX5_16 rfl dX5_slice_10 ?_
    refine lv_iload_n hx hb dX5_slice_13 rfl (lv_at hl 1 rfl) ?_
    obtain ⟨v14, e14, h⟩ := bd1_some h
    refine x_ald hc hG 3 rfl e14 dX5_slice_14 ?_
    refine lv_bipush (v := (-9)) hx hb dX5_slice_15 (by decide) ?_
    refine lv_icmp_ne (tgt := 26) hx hb dX5_slice_17 (by decide) (fun c17 => ?_) (fun c17 => ?_)
    · rw [if_neg c17] at h
      refine lv_aload_n hx hb dX5_slice_26 rfl (lv_at hl 0 rfl) ?_
      refine lv_iload_n hx hb dX5_slice_27 rfl (lv_at hl 1 rfl) ?_
      obtain ⟨v28, m_at_28, wrong_28, draft_28, e28, h⟩ := bd4_some h
      refine x_vi (rest := []) (ws' := (wX5 cI ad deeds finding asked upper lower m_at_28 wrong_28 rowSize rows textSize texts spare now draft_28 tried past kept keptPast keptDeeds findings worth)) hc hG (cc_X5_reads0 ad deeds finding asked upper lower m_at wrong rowSize rows textSize texts spare now draft tried past kept keptPast keptDeeds findings worth x1 v28 m_at_28 wrong_28 draft_28 e28) [0, 1, 2, 3, 4, 5, 6, 7, 8, 9, 10, 11, 12, 13, 14] [] [0, 1, 2, 3, 4, 5, 6, 7, 8, 9, 10, 11, 12, 13, 14] rfl rfl rfl 0 rfl rfl lX5_117 ⟨rfl, rfl, by decide, by decide⟩ rfl hl.1 (Nat.le_of_ble_eq_true rfl) rfl dX5_slice_28 (fun H locs hG => ?_)
      refine lv_bipush (v := (-9)) hx hb dX5_slice_31 (by decide) ?_
      refine lv_icmp_eq (tgt := 39) hx hb dX5_slice_33 (by decide) (fun c33 => ?_) (fun c33 => ?_)
      · rw [if_pos c33] at h
        refine lv_aload_n hx hb dX5_slice_39 rfl (lv_at hl 0 rfl) ?_
        refine x_get hc hG 0 rfl iX5 6 lX5_28 rfl dX5_slice_40 ?_
        refine lv_iconst (v := 0) hx hb dX5_slice_43 (by decide) ?_
        refine lv_aload_n hx hb dX5_slice_44 rfl (lv_at hl 0 rfl) ?_
        refine x_get hc hG 0 rfl iX5 5 lX5_25 rfl dX5_slice_45 ?_
        refine lv_iconst (v := 0) hx hb dX5_slice_48 (by decide) ?_
        refine lv_bipush (v := 35) hx hb dX5_slice_49 (by decide) ?_
        obtain ⟨now_51, e51, h⟩ := bd1_some h
        refine x_sv (rest := []) (ws' := (wX5 cI ad deeds finding asked upper lower m_at_28 wrong_28 rowSize rows textSize texts spare now_51 draft_28 tried past kept keptPast keptDeeds findings worth)) hc hG (cc_X5_copies (fun k => match k with | 0 => ad 7 | _ => ad 6) 35 35 draft_28 now 0 0 35 now_51 e51) [7, 6] [0, 1, 2, 3, 4, 5, 8, 9, 10, 11, 12, 13, 14] [0, 1, 2, 3, 4, 5, 14, 13, 6, 7, 8, 9, 10, 11, 12] rfl rfl rfl lX5_120 ⟨rfl, rfl, by decide, by decide⟩ rfl hl.1 (Nat.le_of_ble_eq_true rfl) rfl dX5_slice_51 (fun H locs hG => ?_)
        refine lv_aload_n hx hb dX5_slice_54 rfl (lv_at hl 0 rfl) ?_
        refine lv_iconst (v := 0) hx hb dX5_slice_55 (by decide) ?_
        refine x_put (ws' := (wX5 cI ad 0 finding asked upper lower m_at_28 wrong_28 rowSize rows textSize texts spare now_51 draft_28 tried past kept keptPast keptDeeds findings worth)) hc hG 0 rfl iX5 tyX5 tyX5_ok nmX5 9 lX5_124 rfl rfl rfl (Nat.le_of_ble_eq_true rfl) rfl dX5_slice_56 (fun H locs hG => ?_)
        refine lv_iconst (v := 0) hx hb dX5_slice_59 (by decide) ?_
        refine lv_istore_n (lv' := [(2, .int 0), (0, .ref (ad 0)), (1, .int x1)]) hx hb dX5_slice_60 rfl hl (by decide) rfl (fun ls hl => ?_)
        obtain ⟨keptDeeds_L61, e61, h⟩ := bd1_some h
        refine hL_61 _ _ _ _ _ _ _ _ (fun ls H locs hl hG => ?_) _ _ _ e61 _ _ _ (lv_sub hl [1, 0] rfl) hG
        refine lv_aload_n hx hb dX5_slice_80 rfl (lv_at hl 0 rfl) ?_
        refine x_get hc hG 0 rfl iX5 5 lX5_25 rfl dX5_slice_81 ?_
        refine lv_iconst (v := 1) hx hb dX5_slice_84 (by decide) ?_
        obtain ⟨v85, e85, h⟩ := bd1_some h
        refine x_ald hc hG 6 rfl e85 dX5_slice_85 ?_
        cases h
        exact hret _ _ _ _ hG dX5_slice_86 rfl
      · rw [if_neg c33] at h
        refine lv_bipush (v := (-4)) hx hb dX5_slice_36 (by decide) ?_
        cases h
        exact hret _ _ _ _ hG dX5_slice_38 rfl
    · rw [if_pos c17] at h
      refine lv_aload_n hx hb dX5_slice_20 rfl (lv_at hl 0 rfl) ?_
      refine lv_iconst (v := 1) hx hb dX5_slice_21 (by decide) ?_
      obtain ⟨v22, finding_22, findings_22, e22, h⟩ := bd3_some h
      refine x_vi (rest := []) (ws' := (wX5 cI ad deeds finding_22 asked upper lower m_at wrong rowSize rows textSize texts spare now draft tried past kept keptPast keptDeeds findings_22 worth)) hc hG (cc_X5_found0 ad deeds finding asked upper lower m_at wrong rowSize rows textSize texts spare now draft tried past kept keptPast keptDeeds findings worth 1 v22 finding_22 findings_22 e22) [0, 1, 2, 3, 4, 5, 6, 7, 8, 9, 10, 11, 12, 13, 14] [] [0, 1, 2, 3, 4, 5, 6, 7, 8, 9, 10, 11, 12, 13, 14] rfl rfl rfl 0 rfl rfl lX5_71 ⟨rfl, rfl, by decide, by decide⟩ rfl hl.1 (Nat.le_of_ble_eq_true rfl) rfl dX5_slice_22 (fun H locs hG => ?_)
      cases h
      exact hret _ _ _ _ hG dX5_slice_25 rfl
  · rw [if_pos c4] at h
    refine lv_iconst (v := (-1)) hx hb dX5_slice_7 (by decide) ?_
    cases h
    exact hret _ _ _ _ hG dX5_slice_8 rfl
set_option maxRecDepth 100000 in
set_option maxHeartbeats 4000000 in
theorem cc_X5_isPeel {l : Launch} {D : va_G} {cI : ClassId} {tL : Nat} (ad : Nat → Nat) (deeds : Int32) (finding : Int32) (asked : Int32) (upper : Int64) (lower : Int64) (m_at : Int32) (wrong : Int32) (rowSize : Nat → Int32) (rows : Nat → Int32) (textSize : Nat → Int32) (texts : Nat → Int32) (spare : Nat → Int32) (now : Nat → Int32) (draft : Nat → Int32) (tried : Nat → Int32) (past : Nat → Int32) (kept : Nat → Int32) (keptPast : Nat → Int32) (keptDeeds : Nat → Int32) (findings : Nat → Int32) (worth : Nat → Int32) (x1 : Int32) (r' : Int32) (h : fX5_isPeel now x1 = some r') : Ci l D cI tL yX5_isPeel cX5_isPeel 2 .boolean rmX5_isPeel (wX5 cI ad deeds finding asked upper lower m_at wrong rowSize rows textSize texts spare now draft tried past kept keptPast keptDeeds findings worth) [.ref (ad 0), .int x1] r' (wX5 cI ad deeds finding asked upper lower m_at wrong rowSize rows textSize texts spare now draft tried past kept keptPast keptDeeds findings worth) := by
  refine Ci_of (own := RX5) (by decide) (Nat.le_of_ble_eq_true rfl) rfl ?_
  intro p e s m below meth c Q A AV hc hret ls hl hG
  obtain ⟨hx, hb, hml, hown, hts, hK, hA, hz⟩ := id hc
  have hl : lv_has ls 2 [(0, .ref (ad 0)), (1, .int x1)] := hl
  unfold fX5_isPeel at h
  refine lv_iload_n hx hb dX5_isPeel_0 rfl (lv_at hl 1 rfl) ?_
  refine lv_iconst (v := 0) hx hb dX5_isPeel_1 (by decide) ?_
  refine lv_aload_n hx hb dX5_isPeel_2 rfl (lv_at hl 0 rfl) ?_
  refine x_get hc hG 0 rfl iX5 5 lX5_25 rfl dX5_isPeel_3 ?_
  refine lv_iconst (v := 1) hx hb dX5_isPeel_6 (by decide) ?_
  obtain ⟨v7, e7, h⟩ := bd1_some h
  refine x_ald hc hG 6 rfl e7 dX5_isPeel_7 ?_
  refine lv_iconst (v := 1) hx hb dX5_isPeel_8 (by decide) ?_
  refine lv_isub hx hb dX5_isPeel_9 ?_
  obtain ⟨v10, e10, h⟩ := bd1_some h
  refine x_si0 (rest := []) hc hG (cc_X5_in0 x1 0 (v7 - 1) v10 e10) lX5_63 ⟨rfl, rfl, by decide, by decide⟩ rfl hl.1 (Nat.le_of_ble_eq_true rfl) rfl dX5_isPeel_10 (fun H locs hG => ?_)
  by_cases cz : v10 &&& 1 = v10
  · rw [if_pos cz] at h
    cases h
    exact hret _ _ _ _ hG dX5_isPeel_13 (nb cz)
  · rw [if_neg cz] at h
    cases h
set_option maxRecDepth 100000 in
set_option maxHeartbeats 4000000 in
theorem cc_X5_isAny {l : Launch} {D : va_G} {cI : ClassId} {tL : Nat} (ad : Nat → Nat) (deeds : Int32) (finding : Int32) (asked : Int32) (upper : Int64) (lower : Int64) (m_at : Int32) (wrong : Int32) (rowSize : Nat → Int32) (rows : Nat → Int32) (textSize : Nat → Int32) (texts : Nat → Int32) (spare : Nat → Int32) (now : Nat → Int32) (draft : Nat → Int32) (tried : Nat → Int32) (past : Nat → Int32) (kept : Nat → Int32) (keptPast : Nat → Int32) (keptDeeds : Nat → Int32) (findings : Nat → Int32) (worth : Nat → Int32) (r' : Int32) (h : fX5_isAny now = some r') : Ci l D cI tL yX5_isAny cX5_isAny 1 .boolean rmX5_isAny (wX5 cI ad deeds finding asked upper lower m_at wrong rowSize rows textSize texts spare now draft tried past kept keptPast keptDeeds findings worth) [.ref (ad 0)] r' (wX5 cI ad deeds finding asked upper lower m_at wrong rowSize rows textSize texts spare now draft tried past kept keptPast keptDeeds findings worth) := by
  refine Ci_of (own := RX5) (by decide) (Nat.le_of_ble_eq_true rfl) rfl ?_
  intro p e s m below meth c Q A AV hc hret ls hl hG
  obtain ⟨hx, hb, hml, hown, hts, hK, hA, hz⟩ := id hc
  have hl : lv_has ls 1 [(0, .ref (ad 0))] := hl
  unfold fX5_isAny at h
  refine lv_aload_n hx hb dX5_isAny_0 rfl (lv_at hl 0 rfl) ?_
  refine x_get hc hG 0 rfl iX5 5 lX5_25 rfl dX5_isAny_1 ?_
  refine lv_iconst (v := 1) hx hb dX5_isAny_4 (by decide) ?_
  obtain ⟨v5, e5, h⟩ := bd1_some h
  refine x_ald hc hG 6 rfl e5 dX5_isAny_5 ?_
  refine lv_if_le (tgt := 13) hx hb dX5_isAny_6 (by decide) (fun c6 => ?_) (fun c6 => ?_)
  · rw [if_pos c6] at h
    refine lv_iconst (v := 0) hx hb dX5_isAny_13 (by decide) ?_
    cases h
    exact hret _ _ _ _ hG dX5_isAny_14 rfl
  · rw [if_neg c6] at h
    refine lv_iconst (v := 1) hx hb dX5_isAny_9 (by decide) ?_
    refine lv_goto (tgt := 14) hx hb dX5_isAny_10 (by decide) ?_
    cases h
    exact hret _ _ _ _ hG dX5_isAny_14 rfl
set_option maxRecDepth 100000 in
set_option maxHeartbeats 4000000 in
theorem cc_X5_bitOf {l : Launch} {D : va_G} {cI : ClassId} {tL : Nat} (x0 : Int32) (x1 : Int32) (x2 : Int32) (r' : Int32) (h : fX5_bitOf x0 x1 x2 = some r') : Ci l D cI tL yX5_bitOf cX5_bitOf 5 .int rmX5_bitOf [] [.int x0, .int x1, .int x2] r' [] := by
  refine Ci_of (own := RX5) (by decide) (Nat.le_of_ble_eq_true rfl) rfl ?_
  intro p e s m below meth c Q A AV hc hret ls hl hG
  obtain ⟨hx, hb, hml, hown, hts, hK, hA, hz⟩ := id hc
  have hl : lv_has ls 5 [(0, .int x0), (1, .int x1), (2, .int x2)] := hl
  have hj_42 : fX5_bitOf_j42 = some r' → ∀ (ls : Array Slot) (H : Heap) (locs : List Loc), lv_has ls 5 [] → St D A s [] H locs → W p l e rmX5_bitOf s m AV below meth c H locs 0 0 Q (F0 m 42 ls []) := by
    intro  h ls H locs hl hG
    unfold fX5_bitOf_j42 at h
    refine lv_iconst (v := 0) hx hb dX5_bitOf_42 (by decide) ?_
    refine lv_goto (tgt := 54) hx hb dX5_bitOf_43 (by decide) ?_
    cases h
    exact hret _ _ _ _ hG dX5_bitOf_54 rfl
  have hj_28 : ∀ (x3 : Int32) (k0 : Int32) (k1 : Int32) , fX5_bitOf_j28 x3 k0 k1 = some r' → ∀ (ls : Array Slot) (H : Heap) (locs : List Loc), lv_has ls 5 [(3, .int x3)] → St D A s [] H locs → W p l e rmX5_bitOf s m AV below meth c H locs 0 0 Q (F0 m 28 ls [.int k1, .int k0]) := by
    intro x3 k0 k1 h ls H locs hl hG
    unfold fX5_bitOf_j28 at h
    refine lv_iadd hx hb dX5_bitOf_28 ?_
    refine lv_istore (lv' := [(4, .int (k0 + k1)), (3, .int x3)]) hx hb dX5_bitOf_29 hl (by decide) rfl (fun ls hl => ?_)
    refine lv_iload_n hx hb dX5_bitOf_31 rfl (lv_at hl 1 rfl) ?_
    refine lv_iconst (v := 3) hx hb dX5_bitOf_32 (by decide) ?_
    refine lv_icmp_gt (tgt := 42) hx hb dX5_bitOf_33 (by decide) (fun c33 => ?_) (fun c33 => ?_)
    · rw [if_pos c33] at h
      exact hj_42  h _ _ _ (lv_sub hl [] rfl) hG
    · rw [if_neg c33] at h
      refine lv_iload hx hb dX5_bitOf_36 (lv_at hl 0 rfl) ?_
      refine lv_iconst (v := 3) hx hb dX5_bitOf_38 (by decide) ?_
      refine lv_icmp_le (tgt := 46) hx hb dX5_bitOf_39 (by decide) (fun c39 => ?_) (fun c39 => ?_)
      · rw [if_pos c39] at h
        refine lv_iconst (v := 1) hx hb dX5_bitOf_46 (by decide) ?_
        refine lv_iconst (v := 4) hx hb dX5_bitOf_47 (by decide) ?_
        refine lv_iload_n hx hb dX5_bitOf_48 rfl (lv_at hl 1 rfl) ?_
        refine lv_imul hx hb dX5_bitOf_49 ?_
        refine lv_iload hx hb dX5_bitOf_50 (lv_at hl 0 rfl) ?_
        refine lv_iadd hx hb dX5_bitOf_52 ?_
        refine lv_ishl hx hb dX5_bitOf_53 ?_
        cases h
        exact hret _ _ _ _ hG dX5_bitOf_54 rfl
      · rw [if_neg c39] at h
        exact hj_42  h _ _ _ (lv_sub hl [] rfl) hG
  have hj_13 : ∀ (x0 : Int32) (x1 : Int32) (x2 : Int32) (k0 : Int32) (k1 : Int32) , fX5_bitOf_j13 x0 x1 x2 k0 k1 = some r' → ∀ (ls : Array Slot) (H : Heap) (locs : List Loc), lv_has ls 5 [(0, .int x0), (1, .int x1), (2, .int x2)] → St D A s [] H locs → W p l e rmX5_bitOf s m AV below meth c H locs 0 0 Q (F0 m 13 ls [.int k1, .int k0]) := by
    intro x0 x1 x2 k0 k1 h ls H locs hl hG
    unfold fX5_bitOf_j13 at h
    refine lv_iadd hx hb dX5_bitOf_13 ?_
    refine lv_istore_n (lv' := [(3, .int (k0 + k1)), (0, .int x0), (1, .int x1), (2, .int x2)]) hx hb dX5_bitOf_14 rfl hl (by decide) rfl (fun ls hl => ?_)
    refine lv_iload_n hx hb dX5_bitOf_15 rfl (lv_at hl 1 rfl) ?_
    refine lv_iconst (v := 4) hx hb dX5_bitOf_16 (by decide) ?_
    refine lv_irem hx hb dX5_bitOf_17 (by decide) ?_
    refine lv_iload_n hx hb dX5_bitOf_18 rfl (lv_at hl 2 rfl) ?_
    refine lv_iconst (v := 1) hx hb dX5_bitOf_19 (by decide) ?_
    refine lv_icmp_ne (tgt := 27) hx hb dX5_bitOf_20 (by decide) (fun c20 => ?_) (fun c20 => ?_)
    · rw [if_neg c20] at h
      refine lv_iload_n hx hb dX5_bitOf_27 rfl (lv_at hl 3 rfl) ?_
      exact hj_28 _ _ _ h _ _ _ (lv_sub hl [0] rfl) hG
    · rw [if_pos c20] at h
      refine lv_iconst (v := 0) hx hb dX5_bitOf_23 (by decide) ?_
      refine lv_goto (tgt := 28) hx hb dX5_bitOf_24 (by decide) ?_
      exact hj_28 _ _ _ h _ _ _ (lv_sub hl [0] rfl) hG
  unfold fX5_bitOf at h
  refine lv_iload_n hx hb dX5_bitOf_0 rfl (lv_at hl 0 rfl) ?_
  refine lv_iconst (v := 4) hx hb dX5_bitOf_1 (by decide) ?_
  refine lv_idiv hx hb dX5_bitOf_2 (by decide) ?_
  refine lv_iload_n hx hb dX5_bitOf_3 rfl (lv_at hl 1 rfl) ?_
  refine lv_iconst (v := 1) hx hb dX5_bitOf_4 (by decide) ?_
  refine lv_icmp_ne (tgt := 12) hx hb dX5_bitOf_5 (by decide) (fun c5 => ?_) (fun c5 => ?_)
  · rw [if_neg c5] at h
    refine lv_iconst (v := 0) hx hb dX5_bitOf_12 (by decide) ?_
    exact hj_13 _ _ _ _ _ h _ _ _ (lv_sub hl [0, 1, 2] rfl) hG
  · rw [if_pos c5] at h
    refine lv_iload_n hx hb dX5_bitOf_8 rfl (lv_at hl 2 rfl) ?_
    refine lv_goto (tgt := 13) hx hb dX5_bitOf_9 (by decide) ?_
    exact hj_13 _ _ _ _ _ h _ _ _ (lv_sub hl [0, 1, 2] rfl) hG
set_option maxRecDepth 100000 in
set_option maxHeartbeats 4000000 in
theorem cc_X5_plainly {l : Launch} {D : va_G} {cI : ClassId} {tL : Nat} (x0 : Int32) (x1 : Int32) (x2 : Int32) (r' : Int32) (h : fX5_plainly x0 x1 x2 = some r') : Ci l D cI tL yX5_plainly cX5_plainly 5 .int rmX5_plainly [] [.int x0, .int x1, .int x2] r' [] := by
  refine Ci_of (own := RX5) (by decide) (Nat.le_of_ble_eq_true rfl) rfl ?_
  intro p e s m below meth c Q A AV hc hret ls hl hG
  obtain ⟨hx, hb, hml, hown, hts, hK, hA, hz⟩ := id hc
  have hl : lv_has ls 5 [(0, .int x0), (1, .int x1), (2, .int x2)] := hl
  have hL_5 : ∀ (x0 : Int32) (x1 : Int32) (x2 : Int32) (x3_o : Int32), (∀ (ls : Array Slot) (H : Heap) (locs : List Loc), lv_has ls 5 [(3, .int x3_o)] → St D A s [] H locs → W p l e rmX5_plainly s m AV below meth c H locs 0 0 Q (F0 m 27 ls [])) → ∀ (n : Nat) (x3 : Int32) (x4 : Int32), fX5_plainly_L5 x0 x1 x2 n x3 x4 = some x3_o → ∀ (ls : Array Slot) (H : Heap) (locs : List Loc), lv_has ls 5 [(0, .int x0), (1, .int x1), (2, .int x2), (3, .int x3), (4, .int x4)] → St D A s [] H locs → W p l e rmX5_plainly s m AV below meth c H locs 0 0 Q (F0 m 5 ls []) := by
    intro x0 x1 x2 x3_o KE n
    induction n with
    | zero =>
      intro x3 x4 h
      exact nomatch (show none = some _ from h)
    | succ n ih =>
      intro x3 x4 h ls H locs hl hG
      have h : fX5_plainly_B5 x0 x1 x2 (fX5_plainly_L5 x0 x1 x2 n) x3 x4 = some x3_o := h
      unfold fX5_plainly_B5 at h
      refine lv_iload hx hb dX5_plainly_5 (lv_at hl 4 rfl) ?_
      refine lv_iload_n hx hb dX5_plainly_7 rfl (lv_at hl 1 rfl) ?_
      refine lv_icmp_ge (tgt := 27) hx hb dX5_plainly_8 (by decide) (fun c8 => ?_) (fun c8 => ?_)
      · rw [if_pos c8] at h
        cases h
        exact KE _ _ _ (lv_sub hl [3] rfl) hG
      · rw [if_neg c8] at h
        refine lv_iload_n hx hb dX5_plainly_11 rfl (lv_at hl 3 rfl) ?_
        refine lv_iload_n hx hb dX5_plainly_12 rfl (lv_at hl 0 rfl) ?_
        refine lv_iload_n hx hb dX5_plainly_13 rfl (lv_at hl 2 rfl) ?_
        refine lv_iload hx hb dX5_plainly_14 (lv_at hl 4 rfl) ?_
        obtain ⟨v16, e16, h⟩ := bd1_some h
        refine x_si0 (rest := [.int x3]) hc hG (cc_X5_bitOf x0 x2 x4 v16 e16) lX5_127 ⟨rfl, rfl, by decide, by decide⟩ rfl hl.1 (Nat.le_of_ble_eq_true rfl) rfl dX5_plainly_16 (fun H locs hG => ?_)
        refine lv_ior hx hb dX5_plainly_19 ?_
        refine lv_istore_n (lv' := [(3, .int (x3 ||| v16)), (0, .int x0), (1, .int x1), (2, .int x2), (4, .int x4)]) hx hb dX5_plainly_20 rfl hl (by decide) rfl (fun ls hl => ?_)
        refine lv_iinc (v := (x4 + 1)) (lv' := [(4, .int (x4 + 1)), (3, .int (x3 ||| v16)), (0, .int x0), (1, .int x1), (2, .int x2)]) hx hb dX5_plainly_21 hl (k := 4) rfl rfl (by decide) rfl (fun ls hl => ?_)
        refine lv_goto (tgt := 5) hx hb dX5_plainly_24 (by decide) ?_
        exact ih _ _ h _ _ _ (lv_sub hl [2, 3, 4, 1, 0] rfl) hG
  unfold fX5_plainly at h
  refine lv_iconst (v := 0) hx hb dX5_plainly_0 (by decide) ?_
  refine lv_istore_n (lv' := [(3, .int 0), (0, .int x0), (1, .int x1), (2, .int x2)]) hx hb dX5_plainly_1 rfl hl (by decide) rfl (fun ls hl => ?_)
  refine lv_iconst (v := 0) hx hb dX5_plainly_2 (by decide) ?_
  refine lv_istore (lv' := [(4, .int 0), (3, .int 0), (0, .int x0), (1, .int x1), (2, .int x2)]) hx hb dX5_plainly_3 hl (by decide) rfl (fun ls hl => ?_)
  obtain ⟨x3_L5, e5, h⟩ := bd1_some h
  refine hL_5 _ _ _ _ (fun ls H locs hl hG => ?_) _ _ _ e5 _ _ _ (lv_sub hl [2, 3, 4, 1, 0] rfl) hG
  refine lv_iload_n hx hb dX5_plainly_27 rfl (lv_at hl 0 rfl) ?_
  cases h
  exact hret _ _ _ _ hG dX5_plainly_28 rfl
set_option maxRecDepth 100000 in
set_option maxHeartbeats 4000000 in
theorem cc_X5_thinly {l : Launch} {D : va_G} {cI : ClassId} {tL : Nat} (x0 : Int32) (x1 : Int32) (x2 : Int32) (r' : Int32) (h : fX5_thinly x0 x1 x2 = some r') : Ci l D cI tL yX5_thinly cX5_thinly 3 .int rmX5_thinly [] [.int x0, .int x1, .int x2] r' [] := by
  refine Ci_of (own := RX5) (by decide) (Nat.le_of_ble_eq_true rfl) rfl ?_
  intro p e s m below meth c Q A AV hc hret ls hl hG
  obtain ⟨hx, hb, hml, hown, hts, hK, hA, hz⟩ := id hc
  have hl : lv_has ls 3 [(0, .int x0), (1, .int x1), (2, .int x2)] := hl
  have hj_21 : ∀  (k0 : Int32) (k1 : Int32) , fX5_thinly_j21 k0 k1 = some r' → ∀ (ls : Array Slot) (H : Heap) (locs : List Loc), lv_has ls 3 [] → St D A s [] H locs → W p l e rmX5_thinly s m AV below meth c H locs 0 0 Q (F0 m 21 ls [.int k1, .int k0]) := by
    intro k0 k1 h ls H locs hl hG
    unfold fX5_thinly_j21 at h
    refine lv_ior hx hb dX5_thinly_21 ?_
    cases h
    exact hret _ _ _ _ hG dX5_thinly_22 rfl
  unfold fX5_thinly at h
  refine lv_iload_n hx hb dX5_thinly_0 rfl (lv_at hl 0 rfl) ?_
  refine lv_iload_n hx hb dX5_thinly_1 rfl (lv_at hl 2 rfl) ?_
  refine lv_iconst (v := 0) hx hb dX5_thinly_2 (by decide) ?_
  obtain ⟨v3, e3, h⟩ := bd1_some h
  refine x_si0 (rest := []) hc hG (cc_X5_bitOf x0 x2 0 v3 e3) lX5_127 ⟨rfl, rfl, by decide, by decide⟩ rfl hl.1 (Nat.le_of_ble_eq_true rfl) rfl dX5_thinly_3 (fun H locs hG => ?_)
  refine lv_iload_n hx hb dX5_thinly_6 rfl (lv_at hl 1 rfl) ?_
  refine lv_iconst (v := 2) hx hb dX5_thinly_7 (by decide) ?_
  refine lv_icmp_le (tgt := 20) hx hb dX5_thinly_8 (by decide) (fun c8 => ?_) (fun c8 => ?_)
  · rw [if_pos c8] at h
    refine lv_iconst (v := 0) hx hb dX5_thinly_20 (by decide) ?_
    exact hj_21 _ _ h _ _ _ (lv_sub hl [] rfl) hG
  · rw [if_neg c8] at h
    refine lv_iload_n hx hb dX5_thinly_11 rfl (lv_at hl 0 rfl) ?_
    refine lv_iload_n hx hb dX5_thinly_12 rfl (lv_at hl 2 rfl) ?_
    refine lv_iconst (v := 2) hx hb dX5_thinly_13 (by decide) ?_
    obtain ⟨v14, e14, h⟩ := bd1_some h
    refine x_si0 (rest := [.int v3]) hc hG (cc_X5_bitOf x0 x2 2 v14 e14) lX5_127 ⟨rfl, rfl, by decide, by decide⟩ rfl hl.1 (Nat.le_of_ble_eq_true rfl) rfl dX5_thinly_14 (fun H locs hG => ?_)
    refine lv_goto (tgt := 21) hx hb dX5_thinly_17 (by decide) ?_
    exact hj_21 _ _ h _ _ _ (lv_sub hl [] rfl) hG
set_option maxRecDepth 100000 in
set_option maxHeartbeats 4000000 in
theorem cc_X5_coversOf {l : Launch} {D : va_G} {cI : ClassId} {tL : Nat} (x0 : Int32) (x1 : Int32) (x2 : Int32) (x3 : Int32) (r' : Int32) (h : fX5_coversOf x0 x1 x2 x3 = some r') : Ci l D cI tL yX5_coversOf cX5_coversOf 6 .int rmX5_coversOf [] [.int x0, .int x1, .int x2, .int x3] r' [] := by
  refine Ci_of (own := RX5) (by decide) (Nat.le_of_ble_eq_true rfl) rfl ?_
  intro p e s m below meth c Q A AV hc hret ls hl hG
  obtain ⟨hx, hb, hml, hown, hts, hK, hA, hz⟩ := id hc
  have hl : lv_has ls 6 [(0, .int x0), (1, .int x1), (2, .int x2), (3, .int x3)] := hl
  have hj_87 : ∀  (k0 : Int32) (k1 : Int32) , fX5_coversOf_j87 k0 k1 = some r' → ∀ (ls : Array Slot) (H : Heap) (locs : List Loc), lv_has ls 6 [] → St D A s [] H locs → W p l e rmX5_coversOf s m AV below meth c H locs 0 0 Q (F0 m 87 ls [.int k1, .int k0]) := by
    intro k0 k1 h ls H locs hl hG
    unfold fX5_coversOf_j87 at h
    refine lv_ior hx hb dX5_coversOf_87 ?_
    cases h
    exact hret _ _ _ _ hG dX5_coversOf_88 rfl
  have hj_86 : ∀  (k0 : Int32) , fX5_coversOf_j86 k0 = some r' → ∀ (ls : Array Slot) (H : Heap) (locs : List Loc), lv_has ls 6 [] → St D A s [] H locs → W p l e rmX5_coversOf s m AV below meth c H locs 0 0 Q (F0 m 86 ls [.int k0]) := by
    intro k0 h ls H locs hl hG
    unfold fX5_coversOf_j86 at h
    refine lv_iconst (v := 0) hx hb dX5_coversOf_86 (by decide) ?_
    exact hj_87 _ _ h _ _ _ (lv_sub hl [] rfl) hG
  unfold fX5_coversOf at h
  refine lv_iload_n hx hb dX5_coversOf_0 rfl (lv_at hl 0 rfl) ?_
  by_cases c1_1 : x0 = 1
  · rw [if_pos c1_1] at h
    refine x_swK (tgt := 36) hx hb dX5_coversOf_1 c1_1 (by decide) (by decide) rfl (by decide) ?_
    refine lv_iload_n hx hb dX5_coversOf_36 rfl (lv_at hl 1 rfl) ?_
    refine lv_iload_n hx hb dX5_coversOf_37 rfl (lv_at hl 2 rfl) ?_
    refine lv_iload_n hx hb dX5_coversOf_38 rfl (lv_at hl 3 rfl) ?_
    obtain ⟨v39, e39, h⟩ := bd1_some h
    refine x_si0 (rest := []) hc hG (cc_X5_thinly x1 x2 x3 v39 e39) lX5_130 ⟨rfl, rfl, by decide, by decide⟩ rfl hl.1 (Nat.le_of_ble_eq_true rfl) rfl dX5_coversOf_39 (fun H locs hG => ?_)
    cases h
    exact hret _ _ _ _ hG dX5_coversOf_42 rfl
  rw [if_neg c1_1] at h
  by_cases c1_2 : x0 = 2
  · rw [if_pos c1_2] at h
    refine x_swK (tgt := 43) hx hb dX5_coversOf_1 c1_2 (by decide) (by decide) rfl (by decide) ?_
    refine lv_iload_n hx hb dX5_coversOf_43 rfl (lv_at hl 1 rfl) ?_
    refine lv_iconst (v := 0) hx hb dX5_coversOf_44 (by decide) ?_
    refine lv_iconst (v := 1) hx hb dX5_coversOf_45 (by decide) ?_
    obtain ⟨v46, e46, h⟩ := bd1_some h
    refine x_si0 (rest := []) hc hG (cc_X5_bitOf x1 0 1 v46 e46) lX5_127 ⟨rfl, rfl, by decide, by decide⟩ rfl hl.1 (Nat.le_of_ble_eq_true rfl) rfl dX5_coversOf_46 (fun H locs hG => ?_)
    refine lv_istore (lv' := [(4, .int v46), (0, .int x0), (1, .int x1), (2, .int x2), (3, .int x3)]) hx hb dX5_coversOf_49 hl (by decide) rfl (fun ls hl => ?_)
    refine lv_iload_n hx hb dX5_coversOf_51 rfl (lv_at hl 2 rfl) ?_
    refine lv_iconst (v := 1) hx hb dX5_coversOf_52 (by decide) ?_
    refine lv_iconst (v := 1) hx hb dX5_coversOf_53 (by decide) ?_
    obtain ⟨v54, e54, h⟩ := bd1_some h
    refine x_si0 (rest := []) hc hG (cc_X5_bitOf x1 1 1 v54 e54) lX5_127 ⟨rfl, rfl, by decide, by decide⟩ rfl hl.1 (Nat.le_of_ble_eq_true rfl) rfl dX5_coversOf_54 (fun H locs hG => ?_)
    refine lv_istore (lv' := [(5, .int v54), (4, .int v46), (0, .int x0), (1, .int x1), (2, .int x2), (3, .int x3)]) hx hb dX5_coversOf_57 hl (by decide) rfl (fun ls hl => ?_)
    refine lv_iconst (v := 1) hx hb dX5_coversOf_59 (by decide) ?_
    refine lv_iload_n hx hb dX5_coversOf_60 rfl (lv_at hl 3 rfl) ?_
    refine lv_ishl hx hb dX5_coversOf_61 ?_
    refine lv_iload hx hb dX5_coversOf_62 (lv_at hl 1 rfl) ?_
    refine lv_ior hx hb dX5_coversOf_64 ?_
    refine lv_iload hx hb dX5_coversOf_65 (lv_at hl 0 rfl) ?_
    refine lv_ior hx hb dX5_coversOf_67 ?_
    refine lv_iload hx hb dX5_coversOf_68 (lv_at hl 1 rfl) ?_
    refine lv_if_eq (tgt := 86) hx hb dX5_coversOf_70 (by decide) (fun c70 => ?_) (fun c70 => ?_)
    · rw [if_pos c70] at h
      exact hj_86 _ h _ _ _ (lv_sub hl [] rfl) hG
    · rw [if_neg c70] at h
      refine lv_iload hx hb dX5_coversOf_73 (lv_at hl 0 rfl) ?_
      refine lv_if_eq (tgt := 86) hx hb dX5_coversOf_75 (by decide) (fun c75 => ?_) (fun c75 => ?_)
      · rw [if_pos c75] at h
        exact hj_86 _ h _ _ _ (lv_sub hl [] rfl) hG
      · rw [if_neg c75] at h
        refine lv_iconst (v := 1) hx hb dX5_coversOf_78 (by decide) ?_
        refine lv_iload_n hx hb dX5_coversOf_79 rfl (lv_at hl 3 rfl) ?_
        refine lv_iconst (v := 5) hx hb dX5_coversOf_80 (by decide) ?_
        refine lv_iadd hx hb dX5_coversOf_81 ?_
        refine lv_ishl hx hb dX5_coversOf_82 ?_
        refine lv_goto (tgt := 87) hx hb dX5_coversOf_83 (by decide) ?_
        exact hj_87 _ _ h _ _ _ (lv_sub hl [] rfl) hG
  rw [if_neg c1_2] at h
  by_cases c1_3 : x0 = 3
  · rw [if_pos c1_3] at h
    refine x_swK (tgt := 89) hx hb dX5_coversOf_1 c1_3 (by decide) (by decide) rfl (by decide) ?_
    refine lv_iload_n hx hb dX5_coversOf_89 rfl (lv_at hl 1 rfl) ?_
    refine lv_iload_n hx hb dX5_coversOf_90 rfl (lv_at hl 2 rfl) ?_
    refine lv_iload_n hx hb dX5_coversOf_91 rfl (lv_at hl 3 rfl) ?_
    obtain ⟨v92, e92, h⟩ := bd1_some h
    refine x_si0 (rest := []) hc hG (cc_X5_plainly x1 x2 x3 v92 e92) lX5_133 ⟨rfl, rfl, by decide, by decide⟩ rfl hl.1 (Nat.le_of_ble_eq_true rfl) rfl dX5_coversOf_92 (fun H locs hG => ?_)
    refine lv_iload_n hx hb dX5_coversOf_95 rfl (lv_at hl 1 rfl) ?_
    refine lv_iconst (v := 2) hx hb dX5_coversOf_96 (by decide) ?_
    refine lv_iconst (v := 1) hx hb dX5_coversOf_97 (by decide) ?_
    refine lv_iload_n hx hb dX5_coversOf_98 rfl (lv_at hl 3 rfl) ?_
    refine lv_isub hx hb dX5_coversOf_99 ?_
    obtain ⟨v100, e100, h⟩ := bd1_some h
    refine x_si0 (rest := [.int v92]) hc hG (cc_X5_plainly x1 2 (1 - x3) v100 e100) lX5_133 ⟨rfl, rfl, by decide, by decide⟩ rfl hl.1 (Nat.le_of_ble_eq_true rfl) rfl dX5_coversOf_100 (fun H locs hG => ?_)
    refine lv_ior hx hb dX5_coversOf_103 ?_
    cases h
    exact hret _ _ _ _ hG dX5_coversOf_104 rfl
  rw [if_neg c1_3] at h
  by_cases c1_4 : x0 = 4
  · rw [if_pos c1_4] at h
    refine x_swK (tgt := 105) hx hb dX5_coversOf_1 c1_4 (by decide) (by decide) rfl (by decide) ?_
    refine lv_iload_n hx hb dX5_coversOf_105 rfl (lv_at hl 1 rfl) ?_
    refine lv_iload_n hx hb dX5_coversOf_106 rfl (lv_at hl 2 rfl) ?_
    refine lv_iload_n hx hb dX5_coversOf_107 rfl (lv_at hl 3 rfl) ?_
    obtain ⟨v108, e108, h⟩ := bd1_some h
    refine x_si0 (rest := []) hc hG (cc_X5_thinly x1 x2 x3 v108 e108) lX5_130 ⟨rfl, rfl, by decide, by decide⟩ rfl hl.1 (Nat.le_of_ble_eq_true rfl) rfl dX5_coversOf_108 (fun H locs hG => ?_)
    refine lv_iload_n hx hb dX5_coversOf_111 rfl (lv_at hl 1 rfl) ?_
    refine lv_iload_n hx hb dX5_coversOf_112 rfl (lv_at hl 2 rfl) ?_
    refine lv_iconst (v := 1) hx hb dX5_coversOf_113 (by decide) ?_
    refine lv_iload_n hx hb dX5_coversOf_114 rfl (lv_at hl 3 rfl) ?_
    refine lv_isub hx hb dX5_coversOf_115 ?_
    obtain ⟨v116, e116, h⟩ := bd1_some h
    refine x_si0 (rest := [.int v108]) hc hG (cc_X5_thinly x1 x2 (1 - x3) v116 e116) lX5_130 ⟨rfl, rfl, by decide, by decide⟩ rfl hl.1 (Nat.le_of_ble_eq_true rfl) rfl dX5_coversOf_116 (fun H locs hG => ?_)
    refine lv_ior hx hb dX5_coversOf_119 ?_
    cases h
    exact hret _ _ _ _ hG dX5_coversOf_120 rfl
  rw [if_neg c1_4] at h
  by_cases c1_5 : x0 = 5
  · rw [if_pos c1_5] at h
    refine x_swK (tgt := 121) hx hb dX5_coversOf_1 c1_5 (by decide) (by decide) rfl (by decide) ?_
    refine lv_iconst (v := 1) hx hb dX5_coversOf_121 (by decide) ?_
    refine lv_iload_n hx hb dX5_coversOf_122 rfl (lv_at hl 1 rfl) ?_
    refine lv_ishl hx hb dX5_coversOf_123 ?_
    cases h
    exact hret _ _ _ _ hG dX5_coversOf_124 rfl
  rw [if_neg c1_5] at h
  refine x_swD (tgt := 125) hx hb dX5_coversOf_1 [1, 2, 3, 4, 5] (by decide) (List.forall_mem_cons.mpr ⟨lv_neT c1_1 (by decide), (List.forall_mem_cons.mpr ⟨lv_neT c1_2 (by decide), (List.forall_mem_cons.mpr ⟨lv_neT c1_3 (by decide), (List.forall_mem_cons.mpr ⟨lv_neT c1_4 (by decide), (List.forall_mem_cons.mpr ⟨lv_neT c1_5 (by decide), (List.forall_mem_nil _)⟩)⟩)⟩)⟩)⟩) (by decide) ?_
  refine lv_iload_n hx hb dX5_coversOf_125 rfl (lv_at hl 1 rfl) ?_
  refine lv_iload_n hx hb dX5_coversOf_126 rfl (lv_at hl 2 rfl) ?_
  refine lv_iload_n hx hb dX5_coversOf_127 rfl (lv_at hl 3 rfl) ?_
  obtain ⟨v128, e128, h⟩ := bd1_some h
  refine x_si0 (rest := []) hc hG (cc_X5_plainly x1 x2 x3 v128 e128) lX5_133 ⟨rfl, rfl, by decide, by decide⟩ rfl hl.1 (Nat.le_of_ble_eq_true rfl) rfl dX5_coversOf_128 (fun H locs hG => ?_)
  cases h
  exact hret _ _ _ _ hG dX5_coversOf_131 rfl
set_option maxRecDepth 100000 in
set_option maxHeartbeats 4000000 in
theorem cc_X5_coverOf {l : Launch} {D : va_G} {cI : ClassId} {tL : Nat} (ad : Nat → Nat) (n0 : Nat) (a0 : Nat → Int32) (x1 : Int32) (r' : Int32) (h : fX5_coverOf n0 a0 x1 = some r') : Ci l D cI tL yX5_coverOf cX5_coverOf 3 .int rmX5_coverOf (wA1 cI ad n0 a0) [.ref (ad 0), .int x1] r' (wA1 cI ad n0 a0) := by
  refine Ci_of (own := RX5) (by decide) (Nat.le_of_ble_eq_true rfl) rfl ?_
  intro p e s m below meth c Q A AV hc hret ls hl hG
  obtain ⟨hx, hb, hml, hown, hts, hK, hA, hz⟩ := id hc
  have hl : lv_has ls 3 [(0, .ref (ad 0)), (1, .int x1)] := hl
  unfold fX5_coverOf at h
  refine lv_iconst (v := 5) hx hb dX5_coverOf_0 (by decide) ?_
  refine lv_iconst (v := 5) hx hb dX5_coverOf_1 (by decide) ?_
  refine lv_iload_n hx hb dX5_coverOf_2 rfl (lv_at hl 1 rfl) ?_
  refine lv_imul hx hb dX5_coverOf_3 ?_
  refine lv_iadd hx hb dX5_coverOf_4 ?_
  refine lv_istore_n (lv' := [(2, .int (5 + (5 * x1))), (0, .ref (ad 0)), (1, .int x1)]) hx hb dX5_coverOf_5 rfl hl (by decide) rfl (fun ls hl => ?_)
  refine lv_aload_n hx hb dX5_coverOf_6 rfl (lv_at hl 1 rfl) ?_
  refine lv_iload_n hx hb dX5_coverOf_7 rfl (lv_at hl 0 rfl) ?_
  obtain ⟨v8, e8, h⟩ := bd1_some h
  refine x_ald hc hG 0 rfl e8 dX5_coverOf_8 ?_
  refine lv_aload_n hx hb dX5_coverOf_9 rfl (lv_at hl 1 rfl) ?_
  refine lv_iload_n hx hb dX5_coverOf_10 rfl (lv_at hl 0 rfl) ?_
  refine lv_iconst (v := 1) hx hb dX5_coverOf_11 (by decide) ?_
  refine lv_iadd hx hb dX5_coverOf_12 ?_
  obtain ⟨v13, e13, h⟩ := bd1_some h
  refine x_ald hc hG 0 rfl e13 dX5_coverOf_13 ?_
  refine lv_aload_n hx hb dX5_coverOf_14 rfl (lv_at hl 1 rfl) ?_
  refine lv_iload_n hx hb dX5_coverOf_15 rfl (lv_at hl 0 rfl) ?_
  refine lv_iconst (v := 2) hx hb dX5_coverOf_16 (by decide) ?_
  refine lv_iadd hx hb dX5_coverOf_17 ?_
  obtain ⟨v18, e18, h⟩ := bd1_some h
  refine x_ald hc hG 0 rfl e18 dX5_coverOf_18 ?_
  refine lv_aload_n hx hb dX5_coverOf_19 rfl (lv_at hl 1 rfl) ?_
  refine lv_iload_n hx hb dX5_coverOf_20 rfl (lv_at hl 0 rfl) ?_
  refine lv_iconst (v := 3) hx hb dX5_coverOf_21 (by decide) ?_
  refine lv_iadd hx hb dX5_coverOf_22 ?_
  obtain ⟨v23, e23, h⟩ := bd1_some h
  refine x_ald hc hG 0 rfl e23 dX5_coverOf_23 ?_
  obtain ⟨v24, e24, h⟩ := bd1_some h
  refine x_si0 (rest := []) hc hG (cc_X5_coversOf v8 v13 v18 v23 v24 e24) lX5_136 ⟨rfl, rfl, by decide, by decide⟩ rfl hl.1 (Nat.le_of_ble_eq_true rfl) rfl dX5_coverOf_24 (fun H locs hG => ?_)
  cases h
  exact hret _ _ _ _ hG dX5_coverOf_27 rfl
set_option maxRecDepth 100000 in
set_option maxHeartbeats 4000000 in
theorem cc_X5_coveredBut {l : Launch} {D : va_G} {cI : ClassId} {tL : Nat} (ad : Nat → Nat) (n0 : Nat) (a0 : Nat → Int32) (x1 : Int32) (r' : Int32) (h : fX5_coveredBut n0 a0 x1 = some r') : Ci l D cI tL yX5_coveredBut cX5_coveredBut 4 .int rmX5_coveredBut (wA1 cI ad n0 a0) [.ref (ad 0), .int x1] r' (wA1 cI ad n0 a0) := by
  refine Ci_of (own := RX5) (by decide) (Nat.le_of_ble_eq_true rfl) rfl ?_
  intro p e s m below meth c Q A AV hc hret ls hl hG
  obtain ⟨hx, hb, hml, hown, hts, hK, hA, hz⟩ := id hc
  have hl : lv_has ls 4 [(0, .ref (ad 0)), (1, .int x1)] := hl
  have hL_4 : ∀ (x1 : Int32) (x2_o : Int32), (∀ (ls : Array Slot) (H : Heap) (locs : List Loc), lv_has ls 4 [(0, .ref (ad 0)), (2, .int x2_o)] → St D A s (wA1 cI ad n0 a0) H locs → W p l e rmX5_coveredBut s m AV below meth c H locs 0 0 Q (F0 m 50 ls [])) → ∀ (n : Nat) (x2 : Int32) (x3 : Int32), fX5_coveredBut_L4 n0 a0 x1 n x2 x3 = some x2_o → ∀ (ls : Array Slot) (H : Heap) (locs : List Loc), lv_has ls 4 [(0, .ref (ad 0)), (1, .int x1), (2, .int x2), (3, .int x3)] → St D A s (wA1 cI ad n0 a0) H locs → W p l e rmX5_coveredBut s m AV below meth c H locs 0 0 Q (F0 m 4 ls []) := by
    intro x1 x2_o KE n
    induction n with
    | zero =>
      intro x2 x3 h
      exact nomatch (show none = some _ from h)
    | succ n ih =>
      intro x2 x3 h ls H locs hl hG
      have h : fX5_coveredBut_B4 n0 a0 x1 (fX5_coveredBut_L4 n0 a0 x1 n) x2 x3 = some x2_o := h
      have hj_42 : ∀ (x3 : Int32) (k0 : Int32) (k1 : Int32) , fX5_coveredBut_j42 (fX5_coveredBut_L4 n0 a0 x1 n) n0 a0 x1 x3 k0 k1 = some x2_o → ∀ (ls : Array Slot) (H : Heap) (locs : List Loc), lv_has ls 4 [(0, .ref (ad 0)), (1, .int x1), (3, .int x3)] → St D A s (wA1 cI ad n0 a0) H locs → W p l e rmX5_coveredBut s m AV below meth c H locs 0 0 Q (F0 m 42 ls [.int k1, .int k0]) := by
        intro x3 k0 k1 h ls H locs hl hG
        unfold fX5_coveredBut_j42 at h
        refine lv_ior hx hb dX5_coveredBut_42 ?_
        refine lv_istore_n (lv' := [(2, .int (k0 ||| k1)), (0, .ref (ad 0)), (1, .int x1), (3, .int x3)]) hx hb dX5_coveredBut_43 rfl hl (by decide) rfl (fun ls hl => ?_)
        refine lv_iinc (v := (x3 + 1)) (lv' := [(3, .int (x3 + 1)), (2, .int (k0 ||| k1)), (0, .ref (ad 0)), (1, .int x1)]) hx hb dX5_coveredBut_44 hl (k := 3) rfl rfl (by decide) rfl (fun ls hl => ?_)
        refine lv_goto (tgt := 4) hx hb dX5_coveredBut_47 (by decide) ?_
        exact ih _ _ h _ _ _ (lv_sub hl [2, 3, 1, 0] rfl) hG
      have hj_33 : ∀ (x3 : Int32) (k0 : Int32) , fX5_coveredBut_j33 (fX5_coveredBut_L4 n0 a0 x1 n) n0 a0 x1 x3 k0 = some x2_o → ∀ (ls : Array Slot) (H : Heap) (locs : List Loc), lv_has ls 4 [(0, .ref (ad 0)), (1, .int x1), (3, .int x3)] → St D A s (wA1 cI ad n0 a0) H locs → W p l e rmX5_coveredBut s m AV below meth c H locs 0 0 Q (F0 m 33 ls [.int k0]) := by
        intro x3 k0 h ls H locs hl hG
        unfold fX5_coveredBut_j33 at h
        refine lv_iconst (v := 0) hx hb dX5_coveredBut_33 (by decide) ?_
        refine lv_goto (tgt := 42) hx hb dX5_coveredBut_34 (by decide) ?_
        exact hj_42 _ _ _ h _ _ _ (lv_sub hl [0, 1, 2] rfl) hG
      unfold fX5_coveredBut_B4 at h
      refine lv_iload_n hx hb dX5_coveredBut_4 rfl (lv_at hl 3 rfl) ?_
      refine lv_aload_n hx hb dX5_coveredBut_5 rfl (lv_at hl 0 rfl) ?_
      refine lv_iconst (v := 1) hx hb dX5_coveredBut_6 (by decide) ?_
      obtain ⟨v7, e7, h⟩ := bd1_some h
      refine x_ald hc hG 0 rfl e7 dX5_coveredBut_7 ?_
      refine lv_icmp_ge (tgt := 50) hx hb dX5_coveredBut_8 (by decide) (fun c8 => ?_) (fun c8 => ?_)
      · rw [if_pos c8] at h
        cases h
        exact KE _ _ _ (lv_sub hl [0, 2] rfl) hG
      · rw [if_neg c8] at h
        refine lv_iload_n hx hb dX5_coveredBut_11 rfl (lv_at hl 2 rfl) ?_
        refine lv_aload_n hx hb dX5_coveredBut_12 rfl (lv_at hl 0 rfl) ?_
        refine lv_iconst (v := 5) hx hb dX5_coveredBut_13 (by decide) ?_
        refine lv_iconst (v := 5) hx hb dX5_coveredBut_14 (by decide) ?_
        refine lv_iload_n hx hb dX5_coveredBut_15 rfl (lv_at hl 3 rfl) ?_
        refine lv_imul hx hb dX5_coveredBut_16 ?_
        refine lv_iadd hx hb dX5_coveredBut_17 ?_
        refine lv_iconst (v := 4) hx hb dX5_coveredBut_18 (by decide) ?_
        refine lv_iadd hx hb dX5_coveredBut_19 ?_
        obtain ⟨v20, e20, h⟩ := bd1_some h
        refine x_ald hc hG 0 rfl e20 dX5_coveredBut_20 ?_
        refine lv_iconst (v := 1) hx hb dX5_coveredBut_21 (by decide) ?_
        refine lv_icmp_eq (tgt := 33) hx hb dX5_coveredBut_22 (by decide) (fun c22 => ?_) (fun c22 => ?_)
        · rw [if_pos c22] at h
          exact hj_33 _ _ h _ _ _ (lv_sub hl [0, 1, 3] rfl) hG
        · rw [if_neg c22] at h
          refine lv_iload_n hx hb dX5_coveredBut_25 rfl (lv_at hl 1 rfl) ?_
          refine lv_iload_n hx hb dX5_coveredBut_26 rfl (lv_at hl 3 rfl) ?_
          obtain ⟨v27, e27, h⟩ := bd1_some h
          refine x_si0 (rest := [.int x2]) hc hG (cc_X5_has x1 x3 v27 e27) lX5_140 ⟨rfl, rfl, by decide, by decide⟩ rfl hl.1 (Nat.le_of_ble_eq_true rfl) rfl dX5_coveredBut_27 (fun H locs hG => ?_)
          refine lv_if_eq (tgt := 37) hx hb dX5_coveredBut_30 (by decide) (fun c30 => ?_) (fun c30 => ?_)
          · rw [if_pos c30] at h
            refine lv_aload_n hx hb dX5_coveredBut_37 rfl (lv_at hl 0 rfl) ?_
            refine lv_iload_n hx hb dX5_coveredBut_38 rfl (lv_at hl 3 rfl) ?_
            obtain ⟨v39, e39, h⟩ := bd1_some h
            refine x_si (rest := [.int x2]) (ws' := (wA1 cI ad n0 a0)) hc hG (cc_X5_coverOf ad n0 a0 x3 v39 e39) [0] [] [0] rfl rfl rfl lX5_144 ⟨rfl, rfl, by decide, by decide⟩ rfl hl.1 (Nat.le_of_ble_eq_true rfl) rfl dX5_coveredBut_39 (fun H locs hG => ?_)
            exact hj_42 _ _ _ h _ _ _ (lv_sub hl [0, 1, 3] rfl) hG
          · rw [if_neg c30] at h
            exact hj_33 _ _ h _ _ _ (lv_sub hl [0, 1, 3] rfl) hG
  unfold fX5_coveredBut at h
  refine lv_iconst (v := 0) hx hb dX5_coveredBut_0 (by decide) ?_
  refine lv_istore_n (lv' := [(2, .int 0), (0, .ref (ad 0)), (1, .int x1)]) hx hb dX5_coveredBut_1 rfl hl (by decide) rfl (fun ls hl => ?_)
  refine lv_iconst (v := 0) hx hb dX5_coveredBut_2 (by decide) ?_
  refine lv_istore_n (lv' := [(3, .int 0), (2, .int 0), (0, .ref (ad 0)), (1, .int x1)]) hx hb dX5_coveredBut_3 rfl hl (by decide) rfl (fun ls hl => ?_)
  obtain ⟨x2_L4, e4, h⟩ := bd1_some h
  refine hL_4 _ _ (fun ls H locs hl hG => ?_) _ _ _ e4 _ _ _ (lv_sub hl [2, 3, 1, 0] rfl) hG
  refine lv_iload_n hx hb dX5_coveredBut_50 rfl (lv_at hl 1 rfl) ?_
  refine lv_aload_n hx hb dX5_coveredBut_51 rfl (lv_at hl 0 rfl) ?_
  refine lv_iconst (v := 4) hx hb dX5_coveredBut_52 (by decide) ?_
  obtain ⟨v53, e53, h⟩ := bd1_some h
  refine x_ald hc hG 0 rfl e53 dX5_coveredBut_53 ?_
  refine lv_iconst (v := (-1)) hx hb dX5_coveredBut_54 (by decide) ?_
  refine lv_ixor hx hb dX5_coveredBut_55 ?_
  refine lv_iand hx hb dX5_coveredBut_56 ?_
  cases h
  exact hret _ _ _ _ hG dX5_coveredBut_57 rfl
set_option maxRecDepth 100000 in
set_option maxHeartbeats 4000000 in
theorem cc_X5_lineOf {l : Launch} {D : va_G} {cI : ClassId} {tL : Nat} (x0 : Int32) (r' : Int32) (h : fX5_lineOf x0 = some r') : Ci l D cI tL yX5_lineOf cX5_lineOf 1 .int rmX5_lineOf [] [.int x0] r' [] := by
  refine Ci_of (own := RX5) (by decide) (Nat.le_of_ble_eq_true rfl) rfl ?_
  intro p e s m below meth c Q A AV hc hret ls hl hG
  obtain ⟨hx, hb, hml, hown, hts, hK, hA, hz⟩ := id hc
  have hl : lv_has ls 1 [(0, .int x0)] := hl
  unfold fX5_lineOf at h
  refine lv_iload_n hx hb dX5_lineOf_0 rfl (lv_at hl 0 rfl) ?_
  refine lv_iconst (v := 4) hx hb dX5_lineOf_1 (by decide) ?_
  refine lv_icmp_ge (tgt := 14) hx hb dX5_lineOf_2 (by decide) (fun c2 => ?_) (fun c2 => ?_)
  · rw [if_pos c2] at h
    refine lv_sipush (v := 4369) hx hb dX5_lineOf_14 (by decide) ?_
    refine lv_iload_n hx hb dX5_lineOf_17 rfl (lv_at hl 0 rfl) ?_
    refine lv_iconst (v := 4) hx hb dX5_lineOf_18 (by decide) ?_
    refine lv_isub hx hb dX5_lineOf_19 ?_
    refine lv_ishl hx hb dX5_lineOf_20 ?_
    cases h
    exact hret _ _ _ _ hG dX5_lineOf_21 rfl
  · rw [if_neg c2] at h
    refine lv_bipush (v := 15) hx hb dX5_lineOf_5 (by decide) ?_
    refine lv_iconst (v := 4) hx hb dX5_lineOf_7 (by decide) ?_
    refine lv_iload_n hx hb dX5_lineOf_8 rfl (lv_at hl 0 rfl) ?_
    refine lv_imul hx hb dX5_lineOf_9 ?_
    refine lv_ishl hx hb dX5_lineOf_10 ?_
    refine lv_goto (tgt := 21) hx hb dX5_lineOf_11 (by decide) ?_
    cases h
    exact hret _ _ _ _ hG dX5_lineOf_21 rfl
set_option maxRecDepth 100000 in
set_option maxHeartbeats 4000000 in
theorem cc_X5_linesOf {l : Launch} {D : va_G} {cI : ClassId} {tL : Nat} (ad : Nat → Nat) (n0 : Nat) (a0 : Nat → Int32) (x1 : Int32) (r' : Int32) (h : fX5_linesOf n0 a0 x1 = some r') : Ci l D cI tL yX5_linesOf cX5_linesOf 4 .int rmX5_linesOf (wA1 cI ad n0 a0) [.ref (ad 0), .int x1] r' (wA1 cI ad n0 a0) := by
  refine Ci_of (own := RX5) (by decide) (Nat.le_of_ble_eq_true rfl) rfl ?_
  intro p e s m below meth c Q A AV hc hret ls hl hG
  obtain ⟨hx, hb, hml, hown, hts, hK, hA, hz⟩ := id hc
  have hl : lv_has ls 4 [(0, .ref (ad 0)), (1, .int x1)] := hl
  have hL_4 : ∀ (x1 : Int32) (x2_o : Int32), (∀ (ls : Array Slot) (H : Heap) (locs : List Loc), lv_has ls 4 [(0, .ref (ad 0)), (2, .int x2_o)] → St D A s (wA1 cI ad n0 a0) H locs → W p l e rmX5_linesOf s m AV below meth c H locs 0 0 Q (F0 m 41 ls [])) → ∀ (n : Nat) (x2 : Int32) (x3 : Int32), fX5_linesOf_L4 n0 a0 x1 n x2 x3 = some x2_o → ∀ (ls : Array Slot) (H : Heap) (locs : List Loc), lv_has ls 4 [(0, .ref (ad 0)), (1, .int x1), (2, .int x2), (3, .int x3)] → St D A s (wA1 cI ad n0 a0) H locs → W p l e rmX5_linesOf s m AV below meth c H locs 0 0 Q (F0 m 4 ls []) := by
    intro x1 x2_o KE n
    induction n with
    | zero =>
      intro x2 x3 h
      exact nomatch (show none = some _ from h)
    | succ n ih =>
      intro x2 x3 h ls H locs hl hG
      have h : fX5_linesOf_B4 n0 a0 x1 (fX5_linesOf_L4 n0 a0 x1 n) x2 x3 = some x2_o := h
      have hj_33 : ∀ (x3 : Int32) (k0 : Int32) (k1 : Int32) , fX5_linesOf_j33 (fX5_linesOf_L4 n0 a0 x1 n) n0 a0 x1 x3 k0 k1 = some x2_o → ∀ (ls : Array Slot) (H : Heap) (locs : List Loc), lv_has ls 4 [(0, .ref (ad 0)), (1, .int x1), (3, .int x3)] → St D A s (wA1 cI ad n0 a0) H locs → W p l e rmX5_linesOf s m AV below meth c H locs 0 0 Q (F0 m 33 ls [.int k1, .int k0]) := by
        intro x3 k0 k1 h ls H locs hl hG
        unfold fX5_linesOf_j33 at h
        refine lv_ior hx hb dX5_linesOf_33 ?_
        refine lv_istore_n (lv' := [(2, .int (k0 ||| k1)), (0, .ref (ad 0)), (1, .int x1), (3, .int x3)]) hx hb dX5_linesOf_34 rfl hl (by decide) rfl (fun ls hl => ?_)
        refine lv_iinc (v := (x3 + 1)) (lv' := [(3, .int (x3 + 1)), (2, .int (k0 ||| k1)), (0, .ref (ad 0)), (1, .int x1)]) hx hb dX5_linesOf_35 hl (k := 3) rfl rfl (by decide) rfl (fun ls hl => ?_)
        refine lv_goto (tgt := 4) hx hb dX5_linesOf_38 (by decide) ?_
        exact ih _ _ h _ _ _ (lv_sub hl [2, 3, 1, 0] rfl) hG
      unfold fX5_linesOf_B4 at h
      refine lv_iload_n hx hb dX5_linesOf_4 rfl (lv_at hl 3 rfl) ?_
      refine lv_bipush (v := 8) hx hb dX5_linesOf_5 (by decide) ?_
      refine lv_icmp_ge (tgt := 41) hx hb dX5_linesOf_7 (by decide) (fun c7 => ?_) (fun c7 => ?_)
      · rw [if_pos c7] at h
        cases h
        exact KE _ _ _ (lv_sub hl [0, 2] rfl) hG
      · rw [if_neg c7] at h
        refine lv_iload_n hx hb dX5_linesOf_10 rfl (lv_at hl 2 rfl) ?_
        refine lv_iload_n hx hb dX5_linesOf_11 rfl (lv_at hl 1 rfl) ?_
        refine lv_iload_n hx hb dX5_linesOf_12 rfl (lv_at hl 3 rfl) ?_
        obtain ⟨v13, e13, h⟩ := bd1_some h
        refine x_si0 (rest := [.int x1, .int x2]) hc hG (cc_X5_lineOf x3 v13 e13) lX5_148 ⟨rfl, rfl, by decide, by decide⟩ rfl hl.1 (Nat.le_of_ble_eq_true rfl) rfl dX5_linesOf_13 (fun H locs hG => ?_)
        refine lv_iand hx hb dX5_linesOf_16 ?_
        obtain ⟨v17, e17, h⟩ := bd1_some h
        refine x_si0 (rest := [.int x2]) hc hG (cc_X5_ones (x1 &&& v13) v17 e17) lX5_151 ⟨rfl, rfl, by decide, by decide⟩ rfl hl.1 (Nat.le_of_ble_eq_true rfl) rfl dX5_linesOf_17 (fun H locs hG => ?_)
        refine lv_aload_n hx hb dX5_linesOf_20 rfl (lv_at hl 0 rfl) ?_
        refine lv_iconst (v := 0) hx hb dX5_linesOf_21 (by decide) ?_
        obtain ⟨v22, e22, h⟩ := bd1_some h
        refine x_ald hc hG 0 rfl e22 dX5_linesOf_22 ?_
        refine lv_icmp_lt (tgt := 32) hx hb dX5_linesOf_23 (by decide) (fun c23 => ?_) (fun c23 => ?_)
        · rw [if_pos c23] at h
          refine lv_iconst (v := 0) hx hb dX5_linesOf_32 (by decide) ?_
          exact hj_33 _ _ _ h _ _ _ (lv_sub hl [0, 1, 3] rfl) hG
        · rw [if_neg c23] at h
          refine lv_iconst (v := 1) hx hb dX5_linesOf_26 (by decide) ?_
          refine lv_iload_n hx hb dX5_linesOf_27 rfl (lv_at hl 3 rfl) ?_
          refine lv_ishl hx hb dX5_linesOf_28 ?_
          refine lv_goto (tgt := 33) hx hb dX5_linesOf_29 (by decide) ?_
          exact hj_33 _ _ _ h _ _ _ (lv_sub hl [0, 1, 3] rfl) hG
  unfold fX5_linesOf at h
  refine lv_iconst (v := 0) hx hb dX5_linesOf_0 (by decide) ?_
  refine lv_istore_n (lv' := [(2, .int 0), (0, .ref (ad 0)), (1, .int x1)]) hx hb dX5_linesOf_1 rfl hl (by decide) rfl (fun ls hl => ?_)
  refine lv_iconst (v := 0) hx hb dX5_linesOf_2 (by decide) ?_
  refine lv_istore_n (lv' := [(3, .int 0), (2, .int 0), (0, .ref (ad 0)), (1, .int x1)]) hx hb dX5_linesOf_3 rfl hl (by decide) rfl (fun ls hl => ?_)
  obtain ⟨x2_L4, e4, h⟩ := bd1_some h
  refine hL_4 _ _ (fun ls H locs hl hG => ?_) _ _ _ e4 _ _ _ (lv_sub hl [2, 3, 1, 0] rfl) hG
  refine lv_iload_n hx hb dX5_linesOf_41 rfl (lv_at hl 1 rfl) ?_
  cases h
  exact hret _ _ _ _ hG dX5_linesOf_42 rfl
set_option maxRecDepth 100000 in
set_option maxHeartbeats 4000000 in
theorem cc_X5_linesIn {l : Launch} {D : va_G} {cI : ClassId} {tL : Nat} (ad : Nat → Nat) (n0 : Nat) (a0 : Nat → Int32) (r' : Int32) (h : fX5_linesIn n0 a0 = some r') : Ci l D cI tL yX5_linesIn cX5_linesIn 1 .int rmX5_linesIn (wA1 cI ad n0 a0) [.ref (ad 0)] r' (wA1 cI ad n0 a0) := by
  refine Ci_of (own := RX5) (by decide) (Nat.le_of_ble_eq_true rfl) rfl ?_
  intro p e s m below meth c Q A AV hc hret ls hl hG
  obtain ⟨hx, hb, hml, hown, hts, hK, hA, hz⟩ := id hc
  have hl : lv_has ls 1 [(0, .ref (ad 0))] := hl
  unfold fX5_linesIn at h
  refine lv_aload_n hx hb dX5_linesIn_0 rfl (lv_at hl 0 rfl) ?_
  refine lv_aload_n hx hb dX5_linesIn_1 rfl (lv_at hl 0 rfl) ?_
  refine lv_iconst (v := 0) hx hb dX5_linesIn_2 (by decide) ?_
  obtain ⟨v3, e3, h⟩ := bd1_some h
  refine x_si (rest := [.ref (ad 0)]) (ws' := (wA1 cI ad n0 a0)) hc hG (cc_X5_coveredBut ad n0 a0 0 v3 e3) [0] [] [0] rfl rfl rfl lX5_154 ⟨rfl, rfl, by decide, by decide⟩ rfl hl.1 (Nat.le_of_ble_eq_true rfl) rfl dX5_linesIn_3 (fun H locs hG => ?_)
  obtain ⟨v6, e6, h⟩ := bd1_some h
  refine x_si (rest := []) (ws' := (wA1 cI ad n0 a0)) hc hG (cc_X5_linesOf ad n0 a0 v3 v6 e6) [0] [] [0] rfl rfl rfl lX5_157 ⟨rfl, rfl, by decide, by decide⟩ rfl hl.1 (Nat.le_of_ble_eq_true rfl) rfl dX5_linesIn_6 (fun H locs hG => ?_)
  cases h
  exact hret _ _ _ _ hG dX5_linesIn_9 rfl
set_option maxRecDepth 100000 in
set_option maxHeartbeats 4000000 in
theorem cc_X5_fallsTo {l : Launch} {D : va_G} {cI : ClassId} {tL : Nat} (ad : Nat → Nat) (n0 : Nat) (a0 : Nat → Int32) (x1 : Int32) (r' : Int32) (h : fX5_fallsTo n0 a0 x1 = some r') : Ci l D cI tL yX5_fallsTo cX5_fallsTo 3 .int rmX5_fallsTo (wA1 cI ad n0 a0) [.ref (ad 0), .int x1] r' (wA1 cI ad n0 a0) := by
  refine Ci_of (own := RX5) (by decide) (Nat.le_of_ble_eq_true rfl) rfl ?_
  intro p e s m below meth c Q A AV hc hret ls hl hG
  obtain ⟨hx, hb, hml, hown, hts, hK, hA, hz⟩ := id hc
  have hl : lv_has ls 3 [(0, .ref (ad 0)), (1, .int x1)] := hl
  unfold fX5_fallsTo at h
  refine lv_iconst (v := 5) hx hb dX5_fallsTo_0 (by decide) ?_
  refine lv_iconst (v := 5) hx hb dX5_fallsTo_1 (by decide) ?_
  refine lv_iload_n hx hb dX5_fallsTo_2 rfl (lv_at hl 1 rfl) ?_
  refine lv_imul hx hb dX5_fallsTo_3 ?_
  refine lv_iadd hx hb dX5_fallsTo_4 ?_
  refine lv_istore_n (lv' := [(2, .int (5 + (5 * x1))), (0, .ref (ad 0)), (1, .int x1)]) hx hb dX5_fallsTo_5 rfl hl (by decide) rfl (fun ls hl => ?_)
  refine lv_iconst (v := 5) hx hb dX5_fallsTo_6 (by decide) ?_
  refine lv_aload_n hx hb dX5_fallsTo_7 rfl (lv_at hl 1 rfl) ?_
  refine lv_iload_n hx hb dX5_fallsTo_8 rfl (lv_at hl 0 rfl) ?_
  refine lv_iconst (v := 1) hx hb dX5_fallsTo_9 (by decide) ?_
  refine lv_iadd hx hb dX5_fallsTo_10 ?_
  obtain ⟨v11, e11, h⟩ := bd1_some h
  refine x_ald hc hG 0 rfl e11 dX5_fallsTo_11 ?_
  refine lv_imul hx hb dX5_fallsTo_12 ?_
  refine lv_aload_n hx hb dX5_fallsTo_13 rfl (lv_at hl 1 rfl) ?_
  refine lv_iload_n hx hb dX5_fallsTo_14 rfl (lv_at hl 0 rfl) ?_
  refine lv_iconst (v := 2) hx hb dX5_fallsTo_15 (by decide) ?_
  refine lv_iadd hx hb dX5_fallsTo_16 ?_
  obtain ⟨v17, e17, h⟩ := bd1_some h
  refine x_ald hc hG 0 rfl e17 dX5_fallsTo_17 ?_
  refine lv_iadd hx hb dX5_fallsTo_18 ?_
  refine lv_aload_n hx hb dX5_fallsTo_19 rfl (lv_at hl 1 rfl) ?_
  refine lv_iconst (v := 2) hx hb dX5_fallsTo_20 (by decide) ?_
  obtain ⟨v21, e21, h⟩ := bd1_some h
  refine x_ald hc hG 0 rfl e21 dX5_fallsTo_21 ?_
  refine lv_iadd hx hb dX5_fallsTo_22 ?_
  refine lv_bipush (v := 16) hx hb dX5_fallsTo_23 (by decide) ?_
  refine lv_irem hx hb dX5_fallsTo_25 (by decide) ?_
  cases h
  exact hret _ _ _ _ hG dX5_fallsTo_26 rfl
set_option maxRecDepth 100000 in
set_option maxHeartbeats 4000000 in
theorem cc_X5_passes {l : Launch} {D : va_G} {cI : ClassId} {tL : Nat} (ad : Nat → Nat) (n0 : Nat) (a0 : Nat → Int32) (r' : Int32) (a0' : Nat → Int32) (h : fX5_passes n0 a0 = some (r', a0')) : Ci l D cI tL yX5_passes cX5_passes 3 .int rmX5_passes (wA1 cI ad n0 a0) [.ref (ad 0)] r' (wA1 cI ad n0 a0') := by
  refine Ci_of (own := RX5) (by decide) (Nat.le_of_ble_eq_true rfl) rfl ?_
  intro p e s m below meth c Q A AV hc hret ls hl hG
  obtain ⟨hx, hb, hml, hown, hts, hK, hA, hz⟩ := id hc
  have hl : lv_has ls 3 [(0, .ref (ad 0))] := hl
  have hL_2 : ∀  (a0_o : Nat → Int32), (∀ (ls : Array Slot) (H : Heap) (locs : List Loc), lv_has ls 3 [(0, .ref (ad 0))] → St D A s (wA1 cI ad n0 a0_o) H locs → W p l e rmX5_passes s m AV below meth c H locs 0 0 Q (F0 m 68 ls [])) → ∀ (n : Nat) (a0 : Nat → Int32) (x1 : Int32), fX5_passes_L2 n0 n a0 x1 = some a0_o → ∀ (ls : Array Slot) (H : Heap) (locs : List Loc), lv_has ls 3 [(0, .ref (ad 0)), (1, .int x1)] → St D A s (wA1 cI ad n0 a0) H locs → W p l e rmX5_passes s m AV below meth c H locs 0 0 Q (F0 m 2 ls []) := by
    intro a0_o KE n
    induction n with
    | zero =>
      intro a0 x1 h
      exact nomatch (show none = some _ from h)
    | succ n ih =>
      intro a0 x1 h ls H locs hl hG
      have h : fX5_passes_B2 n0 (fX5_passes_L2 n0 n) a0 x1 = some a0_o := h
      have hj_62 : ∀ (a0 : Nat → Int32) (x1 : Int32) , fX5_passes_j62 (fX5_passes_L2 n0 n) n0 a0 x1 = some a0_o → ∀ (ls : Array Slot) (H : Heap) (locs : List Loc), lv_has ls 3 [(0, .ref (ad 0)), (1, .int x1)] → St D A s (wA1 cI ad n0 a0) H locs → W p l e rmX5_passes s m AV below meth c H locs 0 0 Q (F0 m 62 ls []) := by
        intro a0 x1 h ls H locs hl hG
        unfold fX5_passes_j62 at h
        refine lv_iinc (v := (x1 + 1)) (lv' := [(1, .int (x1 + 1)), (0, .ref (ad 0))]) hx hb dX5_passes_62 hl (k := 1) rfl rfl (by decide) rfl (fun ls hl => ?_)
        refine lv_goto (tgt := 2) hx hb dX5_passes_65 (by decide) ?_
        exact ih _ _ h _ _ _ (lv_sub hl [1, 0] rfl) hG
      have hj_61 : ∀ (a0 : Nat → Int32) (x1 : Int32) (k1 : Int32) (k2 : Int32) , fX5_passes_j61 (fX5_passes_L2 n0 n) n0 a0 x1 k1 k2 = some a0_o → ∀ (ls : Array Slot) (H : Heap) (locs : List Loc), lv_has ls 3 [(0, .ref (ad 0)), (1, .int x1)] → St D A s (wA1 cI ad n0 a0) H locs → W p l e rmX5_passes s m AV below meth c H locs 0 0 Q (F0 m 61 ls [.int k2, .int k1, .ref (ad 0)]) := by
        intro a0 x1 k1 k2 h ls H locs hl hG
        unfold fX5_passes_j61 at h
        obtain ⟨a0_61, e61, h⟩ := bd1_some h
        refine x_ast (ws' := (wA1 cI ad n0 a0_61)) hc hG 0 rfl e61 rfl dX5_passes_61 (fun H locs hG => ?_)
        exact hj_62 _ _ h _ _ _ (lv_sub hl [0, 1] rfl) hG
      unfold fX5_passes_B2 at h
      refine lv_iload_n hx hb dX5_passes_2 rfl (lv_at hl 1 rfl) ?_
      refine lv_aload_n hx hb dX5_passes_3 rfl (lv_at hl 0 rfl) ?_
      refine lv_iconst (v := 1) hx hb dX5_passes_4 (by decide) ?_
      obtain ⟨v5, e5, h⟩ := bd1_some h
      refine x_ald hc hG 0 rfl e5 dX5_passes_5 ?_
      refine lv_icmp_ge (tgt := 68) hx hb dX5_passes_6 (by decide) (fun c6 => ?_) (fun c6 => ?_)
      · rw [if_pos c6] at h
        cases h
        exact KE _ _ _ (lv_sub hl [0] rfl) hG
      · rw [if_neg c6] at h
        refine lv_iconst (v := 5) hx hb dX5_passes_9 (by decide) ?_
        refine lv_iconst (v := 5) hx hb dX5_passes_10 (by decide) ?_
        refine lv_iload_n hx hb dX5_passes_11 rfl (lv_at hl 1 rfl) ?_
        refine lv_imul hx hb dX5_passes_12 ?_
        refine lv_iadd hx hb dX5_passes_13 ?_
        refine lv_istore_n (lv' := [(2, .int (5 + (5 * x1))), (0, .ref (ad 0)), (1, .int x1)]) hx hb dX5_passes_14 rfl hl (by decide) rfl (fun ls hl => ?_)
        refine lv_aload_n hx hb dX5_passes_15 rfl (lv_at hl 1 rfl) ?_
        refine lv_iload_n hx hb dX5_passes_16 rfl (lv_at hl 0 rfl) ?_
        refine lv_iconst (v := 4) hx hb dX5_passes_17 (by decide) ?_
        refine lv_iadd hx hb dX5_passes_18 ?_
        obtain ⟨v19, e19, h⟩ := bd1_some h
        refine x_ald hc hG 0 rfl e19 dX5_passes_19 ?_
        refine lv_if_ne (tgt := 62) hx hb dX5_passes_20 (by decide) (fun c20 => ?_) (fun c20 => ?_)
        · rw [if_neg c20] at h
          exact hj_62 _ _ h _ _ _ (lv_sub hl [1, 2] rfl) hG
        · rw [if_pos c20] at h
          refine lv_aload_n hx hb dX5_passes_23 rfl (lv_at hl 1 rfl) ?_
          refine lv_iload_n hx hb dX5_passes_24 rfl (lv_at hl 0 rfl) ?_
          refine lv_iconst (v := 1) hx hb dX5_passes_25 (by decide) ?_
          refine lv_iadd hx hb dX5_passes_26 ?_
          refine lv_aload_n hx hb dX5_passes_27 rfl (lv_at hl 1 rfl) ?_
          refine lv_iload_n hx hb dX5_passes_28 rfl (lv_at hl 2 rfl) ?_
          obtain ⟨v29, e29, h⟩ := bd1_some h
          refine x_si (rest := [.int ((5 + (5 * x1)) + 1), .ref (ad 0)]) (ws' := (wA1 cI ad n0 a0)) hc hG (cc_X5_fallsTo ad n0 a0 x1 v29 e29) [0] [] [0] rfl rfl rfl lX5_160 ⟨rfl, rfl, by decide, by decide⟩ rfl hl.1 (Nat.le_of_ble_eq_true rfl) rfl dX5_passes_29 (fun H locs hG => ?_)
          obtain ⟨a0_32, e32, h⟩ := bd1_some h
          refine x_ast (ws' := (wA1 cI ad n0 a0_32)) hc hG 0 rfl e32 rfl dX5_passes_32 (fun H locs hG => ?_)
          refine lv_aload_n hx hb dX5_passes_33 rfl (lv_at hl 1 rfl) ?_
          refine lv_iload_n hx hb dX5_passes_34 rfl (lv_at hl 0 rfl) ?_
          refine lv_iconst (v := 3) hx hb dX5_passes_35 (by decide) ?_
          refine lv_iadd hx hb dX5_passes_36 ?_
          refine lv_aload_n hx hb dX5_passes_37 rfl (lv_at hl 1 rfl) ?_
          refine lv_iconst (v := 2) hx hb dX5_passes_38 (by decide) ?_
          obtain ⟨v39, e39, h⟩ := bd1_some h
          refine x_ald hc hG 0 rfl e39 dX5_passes_39 ?_
          refine lv_iconst (v := 3) hx hb dX5_passes_40 (by decide) ?_
          refine lv_irem hx hb dX5_passes_41 (by decide) ?_
          refine lv_iconst (v := 2) hx hb dX5_passes_42 (by decide) ?_
          refine lv_icmp_ne (tgt := 56) hx hb dX5_passes_43 (by decide) (fun c43 => ?_) (fun c43 => ?_)
          · rw [if_neg c43] at h
            refine lv_aload_n hx hb dX5_passes_56 rfl (lv_at hl 1 rfl) ?_
            refine lv_iload_n hx hb dX5_passes_57 rfl (lv_at hl 0 rfl) ?_
            refine lv_iconst (v := 3) hx hb dX5_passes_58 (by decide) ?_
            refine lv_iadd hx hb dX5_passes_59 ?_
            obtain ⟨v60, e60, h⟩ := bd1_some h
            refine x_ald hc hG 0 rfl e60 dX5_passes_60 ?_
            exact hj_61 _ _ _ _ h _ _ _ (lv_sub hl [1, 2] rfl) hG
          · rw [if_pos c43] at h
            refine lv_iconst (v := 1) hx hb dX5_passes_46 (by decide) ?_
            refine lv_aload_n hx hb dX5_passes_47 rfl (lv_at hl 1 rfl) ?_
            refine lv_iload_n hx hb dX5_passes_48 rfl (lv_at hl 0 rfl) ?_
            refine lv_iconst (v := 3) hx hb dX5_passes_49 (by decide) ?_
            refine lv_iadd hx hb dX5_passes_50 ?_
            obtain ⟨v51, e51, h⟩ := bd1_some h
            refine x_ald hc hG 0 rfl e51 dX5_passes_51 ?_
            refine lv_isub hx hb dX5_passes_52 ?_
            refine lv_goto (tgt := 61) hx hb dX5_passes_53 (by decide) ?_
            exact hj_61 _ _ _ _ h _ _ _ (lv_sub hl [1, 2] rfl) hG
  unfold fX5_passes at h
  refine lv_iconst (v := 0) hx hb dX5_passes_0 (by decide) ?_
  refine lv_istore_n (lv' := [(1, .int 0), (0, .ref (ad 0))]) hx hb dX5_passes_1 rfl hl (by decide) rfl (fun ls hl => ?_)
  obtain ⟨a0_L2, e2, h⟩ := bd1_some h
  refine hL_2 _ (fun ls H locs hl hG => ?_) _ _ _ e2 _ _ _ (lv_sub hl [1, 0] rfl) hG
  refine lv_aload_n hx hb dX5_passes_68 rfl (lv_at hl 0 rfl) ?_
  obtain ⟨v69, e69, h⟩ := bd1_some h
  refine x_si (rest := []) (ws' := (wA1 cI ad n0 a0_L2)) hc hG (cc_X5_linesIn ad n0 a0_L2 v69 e69) [0] [] [0] rfl rfl rfl lX5_163 ⟨rfl, rfl, by decide, by decide⟩ rfl hl.1 (Nat.le_of_ble_eq_true rfl) rfl dX5_passes_69 (fun H locs hG => ?_)
  refine lv_istore_n (lv' := [(1, .int v69), (0, .ref (ad 0))]) hx hb dX5_passes_72 rfl hl (by decide) rfl (fun ls hl => ?_)
  refine lv_aload_n hx hb dX5_passes_73 rfl (lv_at hl 1 rfl) ?_
  refine lv_iconst (v := 3) hx hb dX5_passes_74 (by decide) ?_
  refine lv_dup2_11 hx hb dX5_passes_75 rfl rfl ?_
  obtain ⟨v76, e76, h⟩ := bd1_some h
  refine x_ald hc hG 0 rfl e76 dX5_passes_76 ?_
  refine lv_iload_n hx hb dX5_passes_77 rfl (lv_at hl 0 rfl) ?_
  obtain ⟨v78, e78, h⟩ := bd1_some h
  refine x_si0 (rest := [.int v76, .int 3, .ref (ad 0)]) hc hG (cc_X5_ones v69 v78 e78) lX5_151 ⟨rfl, rfl, by decide, by decide⟩ rfl hl.1 (Nat.le_of_ble_eq_true rfl) rfl dX5_passes_78 (fun H locs hG => ?_)
  refine lv_iadd hx hb dX5_passes_81 ?_
  obtain ⟨a0_82, e82, h⟩ := bd1_some h
  refine x_ast (ws' := (wA1 cI ad n0 a0_82)) hc hG 0 rfl e82 rfl dX5_passes_82 (fun H locs hG => ?_)
  refine lv_aload_n hx hb dX5_passes_83 rfl (lv_at hl 1 rfl) ?_
  refine lv_iconst (v := 2) hx hb dX5_passes_84 (by decide) ?_
  refine lv_dup2_11 hx hb dX5_passes_85 rfl rfl ?_
  obtain ⟨v86, e86, h⟩ := bd1_some h
  refine x_ald hc hG 0 rfl e86 dX5_passes_86 ?_
  refine lv_iconst (v := 1) hx hb dX5_passes_87 (by decide) ?_
  refine lv_iadd hx hb dX5_passes_88 ?_
  obtain ⟨a0_89, e89, h⟩ := bd1_some h
  refine x_ast (ws' := (wA1 cI ad n0 a0_89)) hc hG 0 rfl e89 rfl dX5_passes_89 (fun H locs hG => ?_)
  refine lv_iload_n hx hb dX5_passes_90 rfl (lv_at hl 0 rfl) ?_
  cases h
  exact hret _ _ _ _ hG dX5_passes_91 rfl
set_option maxRecDepth 100000 in
set_option maxHeartbeats 4000000 in
theorem cc_X5_weightOf {l : Launch} {D : va_G} {cI : ClassId} {tL : Nat} (x0 : Int32) (r' : Int32) (h : fX5_weightOf x0 = some r') : Ci l D cI tL yX5_weightOf cX5_weightOf 1 .int rmX5_weightOf [] [.int x0] r' [] := by
  refine Ci_of (own := RX5) (by decide) (Nat.le_of_ble_eq_true rfl) rfl ?_
  intro p e s m below meth c Q A AV hc hret ls hl hG
  obtain ⟨hx, hb, hml, hown, hts, hK, hA, hz⟩ := id hc
  have hl : lv_has ls 1 [(0, .int x0)] := hl
  have hj_10 : fX5_weightOf_j10 = some r' → ∀ (ls : Array Slot) (H : Heap) (locs : List Loc), lv_has ls 1 [] → St D A s [] H locs → W p l e rmX5_weightOf s m AV below meth c H locs 0 0 Q (F0 m 10 ls []) := by
    intro  h ls H locs hl hG
    unfold fX5_weightOf_j10 at h
    refine lv_iconst (v := 3) hx hb dX5_weightOf_10 (by decide) ?_
    refine lv_goto (tgt := 24) hx hb dX5_weightOf_11 (by decide) ?_
    cases h
    exact hret _ _ _ _ hG dX5_weightOf_24 rfl
  unfold fX5_weightOf at h
  refine lv_iload_n hx hb dX5_weightOf_0 rfl (lv_at hl 0 rfl) ?_
  refine lv_iconst (v := 2) hx hb dX5_weightOf_1 (by decide) ?_
  refine lv_icmp_eq (tgt := 10) hx hb dX5_weightOf_2 (by decide) (fun c2 => ?_) (fun c2 => ?_)
  · rw [if_pos c2] at h
    exact hj_10  h _ _ _ (lv_sub hl [] rfl) hG
  · rw [if_neg c2] at h
    refine lv_iload_n hx hb dX5_weightOf_5 rfl (lv_at hl 0 rfl) ?_
    refine lv_iconst (v := 5) hx hb dX5_weightOf_6 (by decide) ?_
    refine lv_icmp_ne (tgt := 14) hx hb dX5_weightOf_7 (by decide) (fun c7 => ?_) (fun c7 => ?_)
    · rw [if_neg c7] at h
      refine lv_iload_n hx hb dX5_weightOf_14 rfl (lv_at hl 0 rfl) ?_
      refine lv_iconst (v := 3) hx hb dX5_weightOf_15 (by decide) ?_
      refine lv_icmp_ne (tgt := 23) hx hb dX5_weightOf_16 (by decide) (fun c16 => ?_) (fun c16 => ?_)
      · rw [if_neg c16] at h
        refine lv_iconst (v := 1) hx hb dX5_weightOf_23 (by decide) ?_
        cases h
        exact hret _ _ _ _ hG dX5_weightOf_24 rfl
      · rw [if_pos c16] at h
        refine lv_iconst (v := 2) hx hb dX5_weightOf_19 (by decide) ?_
        refine lv_goto (tgt := 24) hx hb dX5_weightOf_20 (by decide) ?_
        cases h
        exact hret _ _ _ _ hG dX5_weightOf_24 rfl
    · rw [if_pos c7] at h
      exact hj_10  h _ _ _ (lv_sub hl [] rfl) hG
set_option maxRecDepth 100000 in
set_option maxHeartbeats 4000000 in
theorem cc_X5_lifted {l : Launch} {D : va_G} {cI : ClassId} {tL : Nat} (ad : Nat → Nat) (n0 : Nat) (a0 : Nat → Int32) (r' : Int32) (h : fX5_lifted n0 a0 = some r') : Ci l D cI tL yX5_lifted cX5_lifted 3 .int rmX5_lifted (wA1 cI ad n0 a0) [.ref (ad 0)] r' (wA1 cI ad n0 a0) := by
  refine Ci_of (own := RX5) (by decide) (Nat.le_of_ble_eq_true rfl) rfl ?_
  intro p e s m below meth c Q A AV hc hret ls hl hG
  obtain ⟨hx, hb, hml, hown, hts, hK, hA, hz⟩ := id hc
  have hl : lv_has ls 3 [(0, .ref (ad 0))] := hl
  have hL_4 : ∀  (x1_o : Int32), (∀ (ls : Array Slot) (H : Heap) (locs : List Loc), lv_has ls 3 [(0, .ref (ad 0)), (1, .int x1_o)] → St D A s (wA1 cI ad n0 a0) H locs → W p l e rmX5_lifted s m AV below meth c H locs 0 0 Q (F0 m 31 ls [])) → ∀ (n : Nat) (x1 : Int32) (x2 : Int32), fX5_lifted_L4 n0 a0 n x1 x2 = some x1_o → ∀ (ls : Array Slot) (H : Heap) (locs : List Loc), lv_has ls 3 [(0, .ref (ad 0)), (1, .int x1), (2, .int x2)] → St D A s (wA1 cI ad n0 a0) H locs → W p l e rmX5_lifted s m AV below meth c H locs 0 0 Q (F0 m 4 ls []) := by
    intro x1_o KE n
    induction n with
    | zero =>
      intro x1 x2 h
      exact nomatch (show none = some _ from h)
    | succ n ih =>
      intro x1 x2 h ls H locs hl hG
      have h : fX5_lifted_B4 n0 a0 (fX5_lifted_L4 n0 a0 n) x1 x2 = some x1_o := h
      unfold fX5_lifted_B4 at h
      refine lv_iload_n hx hb dX5_lifted_4 rfl (lv_at hl 2 rfl) ?_
      refine lv_aload_n hx hb dX5_lifted_5 rfl (lv_at hl 0 rfl) ?_
      refine lv_iconst (v := 1) hx hb dX5_lifted_6 (by decide) ?_
      obtain ⟨v7, e7, h⟩ := bd1_some h
      refine x_ald hc hG 0 rfl e7 dX5_lifted_7 ?_
      refine lv_icmp_ge (tgt := 31) hx hb dX5_lifted_8 (by decide) (fun c8 => ?_) (fun c8 => ?_)
      · rw [if_pos c8] at h
        cases h
        exact KE _ _ _ (lv_sub hl [0, 1] rfl) hG
      · rw [if_neg c8] at h
        refine lv_iload_n hx hb dX5_lifted_11 rfl (lv_at hl 1 rfl) ?_
        refine lv_aload_n hx hb dX5_lifted_12 rfl (lv_at hl 0 rfl) ?_
        refine lv_iconst (v := 5) hx hb dX5_lifted_13 (by decide) ?_
        refine lv_iconst (v := 5) hx hb dX5_lifted_14 (by decide) ?_
        refine lv_iload_n hx hb dX5_lifted_15 rfl (lv_at hl 2 rfl) ?_
        refine lv_imul hx hb dX5_lifted_16 ?_
        refine lv_iadd hx hb dX5_lifted_17 ?_
        refine lv_iconst (v := 4) hx hb dX5_lifted_18 (by decide) ?_
        refine lv_iadd hx hb dX5_lifted_19 ?_
        obtain ⟨v20, e20, h⟩ := bd1_some h
        refine x_ald hc hG 0 rfl e20 dX5_lifted_20 ?_
        refine lv_iload_n hx hb dX5_lifted_21 rfl (lv_at hl 2 rfl) ?_
        refine lv_ishl hx hb dX5_lifted_22 ?_
        refine lv_ior hx hb dX5_lifted_23 ?_
        refine lv_istore_n (lv' := [(1, .int (x1 ||| (v20 <<< (x2 &&& 31)))), (0, .ref (ad 0)), (2, .int x2)]) hx hb dX5_lifted_24 rfl hl (by decide) rfl (fun ls hl => ?_)
        refine lv_iinc (v := (x2 + 1)) (lv' := [(2, .int (x2 + 1)), (1, .int (x1 ||| (v20 <<< (x2 &&& 31)))), (0, .ref (ad 0))]) hx hb dX5_lifted_25 hl (k := 2) rfl rfl (by decide) rfl (fun ls hl => ?_)
        refine lv_goto (tgt := 4) hx hb dX5_lifted_28 (by decide) ?_
        exact ih _ _ h _ _ _ (lv_sub hl [2, 1, 0] rfl) hG
  unfold fX5_lifted at h
  refine lv_iconst (v := 0) hx hb dX5_lifted_0 (by decide) ?_
  refine lv_istore_n (lv' := [(1, .int 0), (0, .ref (ad 0))]) hx hb dX5_lifted_1 rfl hl (by decide) rfl (fun ls hl => ?_)
  refine lv_iconst (v := 0) hx hb dX5_lifted_2 (by decide) ?_
  refine lv_istore_n (lv' := [(2, .int 0), (1, .int 0), (0, .ref (ad 0))]) hx hb dX5_lifted_3 rfl hl (by decide) rfl (fun ls hl => ?_)
  obtain ⟨x1_L4, e4, h⟩ := bd1_some h
  refine hL_4 _ (fun ls H locs hl hG => ?_) _ _ _ e4 _ _ _ (lv_sub hl [2, 1, 0] rfl) hG
  refine lv_iload_n hx hb dX5_lifted_31 rfl (lv_at hl 1 rfl) ?_
  cases h
  exact hret _ _ _ _ hG dX5_lifted_32 rfl
set_option maxRecDepth 100000 in
set_option maxHeartbeats 4000000 in
theorem cc_X5_tellsOf {l : Launch} {D : va_G} {cI : ClassId} {tL : Nat} (ad : Nat → Nat) (deeds : Int32) (finding : Int32) (asked : Int32) (upper : Int64) (lower : Int64) (m_at : Int32) (wrong : Int32) (rowSize : Nat → Int32) (rows : Nat → Int32) (textSize : Nat → Int32) (texts : Nat → Int32) (spare : Nat → Int32) (now : Nat → Int32) (draft : Nat → Int32) (tried : Nat → Int32) (past : Nat → Int32) (kept : Nat → Int32) (keptPast : Nat → Int32) (keptDeeds : Nat → Int32) (findings : Nat → Int32) (worth : Nat → Int32) (x1 : Int32) (x2 : Int32) (r' : Int32) (h : fX5_tellsOf now x1 x2 = some r') : Ci l D cI tL yX5_tellsOf cX5_tellsOf 4 .int rmX5_tellsOf (wX5 cI ad deeds finding asked upper lower m_at wrong rowSize rows textSize texts spare now draft tried past kept keptPast keptDeeds findings worth) [.ref (ad 0), .int x1, .int x2] r' (wX5 cI ad deeds finding asked upper lower m_at wrong rowSize rows textSize texts spare now draft tried past kept keptPast keptDeeds findings worth) := by
  refine Ci_of (own := RX5) (by decide) (Nat.le_of_ble_eq_true rfl) rfl ?_
  intro p e s m below meth c Q A AV hc hret ls hl hG
  obtain ⟨hx, hb, hml, hown, hts, hK, hA, hz⟩ := id hc
  have hl : lv_has ls 4 [(0, .ref (ad 0)), (1, .int x1), (2, .int x2)] := hl
  unfold fX5_tellsOf at h
  refine lv_iconst (v := 5) hx hb dX5_tellsOf_0 (by decide) ?_
  refine lv_iconst (v := 5) hx hb dX5_tellsOf_1 (by decide) ?_
  refine lv_iload_n hx hb dX5_tellsOf_2 rfl (lv_at hl 1 rfl) ?_
  refine lv_imul hx hb dX5_tellsOf_3 ?_
  refine lv_iadd hx hb dX5_tellsOf_4 ?_
  refine lv_istore_n (lv' := [(3, .int (5 + (5 * x1))), (0, .ref (ad 0)), (1, .int x1), (2, .int x2)]) hx hb dX5_tellsOf_5 rfl hl (by decide) rfl (fun ls hl => ?_)
  refine lv_iload_n hx hb dX5_tellsOf_6 rfl (lv_at hl 3 rfl) ?_
  refine lv_iconst (v := 5) hx hb dX5_tellsOf_7 (by decide) ?_
  refine lv_icmp_ne (tgt := 22) hx hb dX5_tellsOf_8 (by decide) (fun c8 => ?_) (fun c8 => ?_)
  · rw [if_neg c8] at h
    refine lv_iload_n hx hb dX5_tellsOf_22 rfl (lv_at hl 3 rfl) ?_
    refine lv_bipush (v := 6) hx hb dX5_tellsOf_23 (by decide) ?_
    refine lv_icmp_ne (tgt := 40) hx hb dX5_tellsOf_25 (by decide) (fun c25 => ?_) (fun c25 => ?_)
    · rw [if_neg c25] at h
      refine lv_aload_n hx hb dX5_tellsOf_40 rfl (lv_at hl 1 rfl) ?_
      refine x_get hc hG 0 rfl iX5 5 lX5_25 rfl dX5_tellsOf_41 ?_
      refine lv_iload_n hx hb dX5_tellsOf_44 rfl (lv_at hl 0 rfl) ?_
      refine lv_iload_n hx hb dX5_tellsOf_45 rfl (lv_at hl 3 rfl) ?_
      refine lv_iadd hx hb dX5_tellsOf_46 ?_
      obtain ⟨v47, e47, h⟩ := bd1_some h
      refine x_ald hc hG 6 rfl e47 dX5_tellsOf_47 ?_
      cases h
      exact hret _ _ _ _ hG dX5_tellsOf_48 rfl
    · rw [if_pos c25] at h
      refine lv_aload_n hx hb dX5_tellsOf_28 rfl (lv_at hl 1 rfl) ?_
      refine x_get hc hG 0 rfl iX5 5 lX5_25 rfl dX5_tellsOf_29 ?_
      refine lv_iload_n hx hb dX5_tellsOf_32 rfl (lv_at hl 0 rfl) ?_
      obtain ⟨v33, e33, h⟩ := bd1_some h
      refine x_ald hc hG 6 rfl e33 dX5_tellsOf_33 ?_
      obtain ⟨v34, e34, h⟩ := bd1_some h
      refine x_si0 (rest := []) hc hG (cc_X5_weightOf v33 v34 e34) lX5_167 ⟨rfl, rfl, by decide, by decide⟩ rfl hl.1 (Nat.le_of_ble_eq_true rfl) rfl dX5_tellsOf_34 (fun H locs hG => ?_)
      refine lv_goto (tgt := 48) hx hb dX5_tellsOf_37 (by decide) ?_
      cases h
      exact hret _ _ _ _ hG dX5_tellsOf_48 rfl
  · rw [if_pos c8] at h
    refine lv_aload_n hx hb dX5_tellsOf_11 rfl (lv_at hl 1 rfl) ?_
    refine x_get hc hG 0 rfl iX5 5 lX5_25 rfl dX5_tellsOf_12 ?_
    refine lv_iload_n hx hb dX5_tellsOf_15 rfl (lv_at hl 2 rfl) ?_
    obtain ⟨v16, e16, h⟩ := bd1_some h
    refine x_si (rest := []) (ws' := (wX5 cI ad deeds finding asked upper lower m_at wrong rowSize rows textSize texts spare now draft tried past kept keptPast keptDeeds findings worth)) hc hG (cc_X5_coverOf (fun k => ad (6 + k)) 35 now x1 v16 e16) [6] [0, 1, 2, 3, 4, 5, 7, 8, 9, 10, 11, 12, 13, 14] [0, 1, 2, 3, 4, 5, 14, 6, 7, 8, 9, 10, 11, 12, 13] rfl rfl rfl lX5_144 ⟨rfl, rfl, by decide, by decide⟩ rfl hl.1 (Nat.le_of_ble_eq_true rfl) rfl dX5_tellsOf_16 (fun H locs hG => ?_)
    refine lv_goto (tgt := 48) hx hb dX5_tellsOf_19 (by decide) ?_
    cases h
    exact hret _ _ _ _ hG dX5_tellsOf_48 rfl
set_option maxRecDepth 100000 in
set_option maxHeartbeats 4000000 in
theorem cc_X5_peel {l : Launch} {D : va_G} {cI : ClassId} {tL : Nat} (ad : Nat → Nat) (deeds : Int32) (finding : Int32) (asked : Int32) (upper : Int64) (lower : Int64) (m_at : Int32) (wrong : Int32) (rowSize : Nat → Int32) (rows : Nat → Int32) (textSize : Nat → Int32) (texts : Nat → Int32) (spare : Nat → Int32) (now : Nat → Int32) (draft : Nat → Int32) (tried : Nat → Int32) (past : Nat → Int32) (kept : Nat → Int32) (keptPast : Nat → Int32) (keptDeeds : Nat → Int32) (findings : Nat → Int32) (worth : Nat → Int32) (x1 : Int32) (x2 : Int32) (r' : Int32) (asked' : Int32) (h : fX5_peel asked now x1 x2 = some (r', asked')) : Ci l D cI tL yX5_peel cX5_peel 3 .int rmX5_peel (wX5 cI ad deeds finding asked upper lower m_at wrong rowSize rows textSize texts spare now draft tried past kept keptPast keptDeeds findings worth) [.ref (ad 0), .int x1, .int x2] r' (wX5 cI ad deeds finding asked' upper lower m_at wrong rowSize rows textSize texts spare now draft tried past kept keptPast keptDeeds findings worth) := by
  refine Ci_of (own := RX5) (by decide) (Nat.le_of_ble_eq_true rfl) rfl ?_
  intro p e s m below meth c Q A AV hc hret ls hl hG
  obtain ⟨hx, hb, hml, hown, hts, hK, hA, hz⟩ := id hc
  have hl : lv_has ls 3 [(0, .ref (ad 0)), (1, .int x1), (2, .int x2)] := hl
  unfold fX5_peel at h
  refine lv_aload_n hx hb dX5_peel_0 rfl (lv_at hl 0 rfl) ?_
  refine lv_iload_n hx hb dX5_peel_1 rfl (lv_at hl 1 rfl) ?_
  obtain ⟨v2, e2, h⟩ := bd1_some h
  refine x_vi (rest := []) (ws' := (wX5 cI ad deeds finding asked upper lower m_at wrong rowSize rows textSize texts spare now draft tried past kept keptPast keptDeeds findings worth)) hc hG (cc_X5_isPeel ad deeds finding asked upper lower m_at wrong rowSize rows textSize texts spare now draft tried past kept keptPast keptDeeds findings worth x1 v2 e2) [0, 1, 2, 3, 4, 5, 6, 7, 8, 9, 10, 11, 12, 13, 14] [] [0, 1, 2, 3, 4, 5, 6, 7, 8, 9, 10, 11, 12, 13, 14] rfl rfl rfl 0 rfl rfl lX5_170 ⟨rfl, rfl, by decide, by decide⟩ rfl hl.1 (Nat.le_of_ble_eq_true rfl) rfl dX5_peel_2 (fun H locs hG => ?_)
  refine lv_if_eq (tgt := 18) hx hb dX5_peel_5 (by decide) (fun c5 => ?_) (fun c5 => ?_)
  · rw [if_pos c5] at h
    refine lv_iconst (v := (-1)) hx hb dX5_peel_18 (by decide) ?_
    cases h
    exact hret _ _ _ _ hG dX5_peel_19 rfl
  · rw [if_neg c5] at h
    refine lv_iload_n hx hb dX5_peel_8 rfl (lv_at hl 2 rfl) ?_
    refine lv_iconst (v := 0) hx hb dX5_peel_9 (by decide) ?_
    refine lv_bipush (v := 6) hx hb dX5_peel_10 (by decide) ?_
    obtain ⟨v12, e12, h⟩ := bd1_some h
    refine x_si0 (rest := []) hc hG (cc_X5_in0 x2 0 6 v12 e12) lX5_63 ⟨rfl, rfl, by decide, by decide⟩ rfl hl.1 (Nat.le_of_ble_eq_true rfl) rfl dX5_peel_12 (fun H locs hG => ?_)
    refine lv_if_ne (tgt := 20) hx hb dX5_peel_15 (by decide) (fun c15 => ?_) (fun c15 => ?_)
    · rw [if_neg c15] at h
      refine lv_aload_n hx hb dX5_peel_20 rfl (lv_at hl 0 rfl) ?_
      refine lv_aload_n hx hb dX5_peel_21 rfl (lv_at hl 0 rfl) ?_
      refine lv_iload_n hx hb dX5_peel_22 rfl (lv_at hl 1 rfl) ?_
      refine lv_iload_n hx hb dX5_peel_23 rfl (lv_at hl 2 rfl) ?_
      obtain ⟨v24, e24, h⟩ := bd1_some h
      refine x_vi (rest := [.ref (ad 0)]) (ws' := (wX5 cI ad deeds finding asked upper lower m_at wrong rowSize rows textSize texts spare now draft tried past kept keptPast keptDeeds findings worth)) hc hG (cc_X5_tellsOf ad deeds finding asked upper lower m_at wrong rowSize rows textSize texts spare now draft tried past kept keptPast keptDeeds findings worth x1 x2 v24 e24) [0, 1, 2, 3, 4, 5, 6, 7, 8, 9, 10, 11, 12, 13, 14] [] [0, 1, 2, 3, 4, 5, 6, 7, 8, 9, 10, 11, 12, 13, 14] rfl rfl rfl 0 rfl rfl lX5_173 ⟨rfl, rfl, by decide, by decide⟩ rfl hl.1 (Nat.le_of_ble_eq_true rfl) rfl dX5_peel_24 (fun H locs hG => ?_)
      obtain ⟨v27, asked_27, e27, h⟩ := bd2_some h
      refine x_vi (rest := []) (ws' := (wX5 cI ad deeds finding asked_27 upper lower m_at wrong rowSize rows textSize texts spare now draft tried past kept keptPast keptDeeds findings worth)) hc hG (cc_X5_tells ad deeds finding asked upper lower m_at wrong rowSize rows textSize texts spare now draft tried past kept keptPast keptDeeds findings worth v24 v27 asked_27 e27) [0, 1, 2, 3, 4, 5, 6, 7, 8, 9, 10, 11, 12, 13, 14] [] [0, 1, 2, 3, 4, 5, 6, 7, 8, 9, 10, 11, 12, 13, 14] rfl rfl rfl 0 rfl rfl lX5_75 ⟨rfl, rfl, by decide, by decide⟩ rfl hl.1 (Nat.le_of_ble_eq_true rfl) rfl dX5_peel_27 (fun H locs hG => ?_)
      cases h
      exact hret _ _ _ _ hG dX5_peel_30 rfl
    · rw [if_pos c15] at h
      refine lv_iconst (v := (-1)) hx hb dX5_peel_18 (by decide) ?_
      cases h
      exact hret _ _ _ _ hG dX5_peel_19 rfl
set_option maxRecDepth 100000 in
set_option maxHeartbeats 4000000 in
theorem cc_X5_isOf {l : Launch} {D : va_G} {cI : ClassId} {tL : Nat} (x0 : Int32) (x1 : Int32) (r' : Int32) (h : fX5_isOf x0 x1 = some r') : Ci l D cI tL yX5_isOf cX5_isOf 2 .boolean rmX5_isOf [] [.int x0, .int x1] r' [] := by
  refine Ci_of (own := RX5) (by decide) (Nat.le_of_ble_eq_true rfl) rfl ?_
  intro p e s m below meth c Q A AV hc hret ls hl hG
  obtain ⟨hx, hb, hml, hown, hts, hK, hA, hz⟩ := id hc
  have hl : lv_has ls 2 [(0, .int x0), (1, .int x1)] := hl
  have hj_25 : fX5_isOf_j25 = some r' → ∀ (ls : Array Slot) (H : Heap) (locs : List Loc), lv_has ls 2 [] → St D A s [] H locs → W p l e rmX5_isOf s m AV below meth c H locs 0 0 Q (F0 m 25 ls []) := by
    intro  h ls H locs hl hG
    unfold fX5_isOf_j25 at h
    refine lv_iconst (v := 1) hx hb dX5_isOf_25 (by decide) ?_
    refine lv_goto (tgt := 30) hx hb dX5_isOf_26 (by decide) ?_
    cases h
    exact hret _ _ _ _ hG dX5_isOf_30 rfl
  have hj_15 : ∀ (x0 : Int32) (x1 : Int32) , fX5_isOf_j15 x0 x1 = some r' → ∀ (ls : Array Slot) (H : Heap) (locs : List Loc), lv_has ls 2 [(0, .int x0), (1, .int x1)] → St D A s [] H locs → W p l e rmX5_isOf s m AV below meth c H locs 0 0 Q (F0 m 15 ls []) := by
    intro x0 x1 h ls H locs hl hG
    unfold fX5_isOf_j15 at h
    refine lv_iload_n hx hb dX5_isOf_15 rfl (lv_at hl 0 rfl) ?_
    refine lv_iconst (v := 5) hx hb dX5_isOf_16 (by decide) ?_
    refine lv_icmp_ne (tgt := 29) hx hb dX5_isOf_17 (by decide) (fun c17 => ?_) (fun c17 => ?_)
    · rw [if_neg c17] at h
      refine lv_iconst (v := 0) hx hb dX5_isOf_29 (by decide) ?_
      cases h
      exact hret _ _ _ _ hG dX5_isOf_30 rfl
    · rw [if_pos c17] at h
      refine lv_iload_n hx hb dX5_isOf_20 rfl (lv_at hl 1 rfl) ?_
      refine lv_iconst (v := 2) hx hb dX5_isOf_21 (by decide) ?_
      refine lv_icmp_ne (tgt := 29) hx hb dX5_isOf_22 (by decide) (fun c22 => ?_) (fun c22 => ?_)
      · rw [if_neg c22] at h
        refine lv_iconst (v := 0) hx hb dX5_isOf_29 (by decide) ?_
        cases h
        exact hret _ _ _ _ hG dX5_isOf_30 rfl
      · rw [if_pos c22] at h
        exact hj_25  h _ _ _ (lv_sub hl [] rfl) hG
  unfold fX5_isOf at h
  refine lv_iload_n hx hb dX5_isOf_0 rfl (lv_at hl 0 rfl) ?_
  refine lv_iload_n hx hb dX5_isOf_1 rfl (lv_at hl 1 rfl) ?_
  refine lv_icmp_eq (tgt := 25) hx hb dX5_isOf_2 (by decide) (fun c2 => ?_) (fun c2 => ?_)
  · rw [if_pos c2] at h
    exact hj_25  h _ _ _ (lv_sub hl [] rfl) hG
  · rw [if_neg c2] at h
    refine lv_iload_n hx hb dX5_isOf_5 rfl (lv_at hl 0 rfl) ?_
    refine lv_iconst (v := 4) hx hb dX5_isOf_6 (by decide) ?_
    refine lv_icmp_ne (tgt := 15) hx hb dX5_isOf_7 (by decide) (fun c7 => ?_) (fun c7 => ?_)
    · rw [if_neg c7] at h
      exact hj_15 _ _ h _ _ _ (lv_sub hl [0, 1] rfl) hG
    · rw [if_pos c7] at h
      refine lv_iload_n hx hb dX5_isOf_10 rfl (lv_at hl 1 rfl) ?_
      refine lv_iconst (v := 1) hx hb dX5_isOf_11 (by decide) ?_
      refine lv_icmp_eq (tgt := 25) hx hb dX5_isOf_12 (by decide) (fun c12 => ?_) (fun c12 => ?_)
      · rw [if_pos c12] at h
        exact hj_25  h _ _ _ (lv_sub hl [] rfl) hG
      · rw [if_neg c12] at h
        exact hj_15 _ _ h _ _ _ (lv_sub hl [0, 1] rfl) hG
set_option maxRecDepth 100000 in
set_option maxHeartbeats 4000000 in
theorem cc_X5_inStead {l : Launch} {D : va_G} {cI : ClassId} {tL : Nat} (ad : Nat → Nat) (deeds : Int32) (finding : Int32) (asked : Int32) (upper : Int64) (lower : Int64) (m_at : Int32) (wrong : Int32) (rowSize : Nat → Int32) (rows : Nat → Int32) (textSize : Nat → Int32) (texts : Nat → Int32) (spare : Nat → Int32) (now : Nat → Int32) (draft : Nat → Int32) (tried : Nat → Int32) (past : Nat → Int32) (kept : Nat → Int32) (keptPast : Nat → Int32) (keptDeeds : Nat → Int32) (findings : Nat → Int32) (worth : Nat → Int32) (x1 : Int32) (x2 : Int32) (r' : Int32) (h : fX5_inStead now x1 x2 = some r') : Ci l D cI tL yX5_inStead cX5_inStead 4 .int rmX5_inStead (wX5 cI ad deeds finding asked upper lower m_at wrong rowSize rows textSize texts spare now draft tried past kept keptPast keptDeeds findings worth) [.ref (ad 0), .int x1, .int x2] r' (wX5 cI ad deeds finding asked upper lower m_at wrong rowSize rows textSize texts spare now draft tried past kept keptPast keptDeeds findings worth) := by
  refine Ci_of (own := RX5) (by decide) (Nat.le_of_ble_eq_true rfl) rfl ?_
  intro p e s m below meth c Q A AV hc hret ls hl hG
  obtain ⟨hx, hb, hml, hown, hts, hK, hA, hz⟩ := id hc
  have hl : lv_has ls 4 [(0, .ref (ad 0)), (1, .int x1), (2, .int x2)] := hl
  unfold fX5_inStead at h
  refine lv_iconst (v := 5) hx hb dX5_inStead_0 (by decide) ?_
  refine lv_iconst (v := 5) hx hb dX5_inStead_1 (by decide) ?_
  refine lv_iload_n hx hb dX5_inStead_2 rfl (lv_at hl 1 rfl) ?_
  refine lv_imul hx hb dX5_inStead_3 ?_
  refine lv_iadd hx hb dX5_inStead_4 ?_
  refine lv_istore_n (lv' := [(3, .int (5 + (5 * x1))), (0, .ref (ad 0)), (1, .int x1), (2, .int x2)]) hx hb dX5_inStead_5 rfl hl (by decide) rfl (fun ls hl => ?_)
  refine lv_iload_n hx hb dX5_inStead_6 rfl (lv_at hl 3 rfl) ?_
  refine lv_aload_n hx hb dX5_inStead_7 rfl (lv_at hl 1 rfl) ?_
  refine x_get hc hG 0 rfl iX5 5 lX5_25 rfl dX5_inStead_8 ?_
  refine lv_iload_n hx hb dX5_inStead_11 rfl (lv_at hl 0 rfl) ?_
  refine lv_iconst (v := 1) hx hb dX5_inStead_12 (by decide) ?_
  refine lv_iadd hx hb dX5_inStead_13 ?_
  obtain ⟨v14, e14, h⟩ := bd1_some h
  refine x_ald hc hG 6 rfl e14 dX5_inStead_14 ?_
  refine lv_aload_n hx hb dX5_inStead_15 rfl (lv_at hl 1 rfl) ?_
  refine x_get hc hG 0 rfl iX5 5 lX5_25 rfl dX5_inStead_16 ?_
  refine lv_iload_n hx hb dX5_inStead_19 rfl (lv_at hl 0 rfl) ?_
  refine lv_iconst (v := 2) hx hb dX5_inStead_20 (by decide) ?_
  refine lv_iadd hx hb dX5_inStead_21 ?_
  obtain ⟨v22, e22, h⟩ := bd1_some h
  refine x_ald hc hG 6 rfl e22 dX5_inStead_22 ?_
  refine lv_aload_n hx hb dX5_inStead_23 rfl (lv_at hl 1 rfl) ?_
  refine x_get hc hG 0 rfl iX5 5 lX5_25 rfl dX5_inStead_24 ?_
  refine lv_iload_n hx hb dX5_inStead_27 rfl (lv_at hl 0 rfl) ?_
  refine lv_iconst (v := 3) hx hb dX5_inStead_28 (by decide) ?_
  refine lv_iadd hx hb dX5_inStead_29 ?_
  obtain ⟨v30, e30, h⟩ := bd1_some h
  refine x_ald hc hG 6 rfl e30 dX5_inStead_30 ?_
  obtain ⟨v31, e31, h⟩ := bd1_some h
  refine x_si0 (rest := []) hc hG (cc_X5_coversOf x2 v14 v22 v30 v31 e31) lX5_136 ⟨rfl, rfl, by decide, by decide⟩ rfl hl.1 (Nat.le_of_ble_eq_true rfl) rfl dX5_inStead_31 (fun H locs hG => ?_)
  cases h
  exact hret _ _ _ _ hG dX5_inStead_34 rfl
set_option maxRecDepth 100000 in
set_option maxHeartbeats 4000000 in
theorem cc_X5_asHeavy {l : Launch} {D : va_G} {cI : ClassId} {tL : Nat} (ad : Nat → Nat) (deeds : Int32) (finding : Int32) (asked : Int32) (upper : Int64) (lower : Int64) (m_at : Int32) (wrong : Int32) (rowSize : Nat → Int32) (rows : Nat → Int32) (textSize : Nat → Int32) (texts : Nat → Int32) (spare : Nat → Int32) (now : Nat → Int32) (draft : Nat → Int32) (tried : Nat → Int32) (past : Nat → Int32) (kept : Nat → Int32) (keptPast : Nat → Int32) (keptDeeds : Nat → Int32) (findings : Nat → Int32) (worth : Nat → Int32) (x1 : Int32) (r' : Int32) (h : fX5_asHeavy now x1 = some r') : Ci l D cI tL yX5_asHeavy cX5_asHeavy 4 .int rmX5_asHeavy (wX5 cI ad deeds finding asked upper lower m_at wrong rowSize rows textSize texts spare now draft tried past kept keptPast keptDeeds findings worth) [.ref (ad 0), .int x1] r' (wX5 cI ad deeds finding asked upper lower m_at wrong rowSize rows textSize texts spare now draft tried past kept keptPast keptDeeds findings worth) := by
  refine Ci_of (own := RX5) (by decide) (Nat.le_of_ble_eq_true rfl) rfl ?_
  intro p e s m below meth c Q A AV hc hret ls hl hG
  obtain ⟨hx, hb, hml, hown, hts, hK, hA, hz⟩ := id hc
  have hl : lv_has ls 4 [(0, .ref (ad 0)), (1, .int x1)] := hl
  have hL_4 : ∀ (x1 : Int32) (x2_o : Int32), (∀ (ls : Array Slot) (H : Heap) (locs : List Loc), lv_has ls 4 [(0, .ref (ad 0)), (2, .int x2_o)] → St D A s (wX5 cI ad deeds finding asked upper lower m_at wrong rowSize rows textSize texts spare now draft tried past kept keptPast keptDeeds findings worth) H locs → W p l e rmX5_asHeavy s m AV below meth c H locs 0 0 Q (F0 m 57 ls [])) → ∀ (n : Nat) (x2 : Int32) (x3 : Int32), fX5_asHeavy_L4 now x1 n x2 x3 = some x2_o → ∀ (ls : Array Slot) (H : Heap) (locs : List Loc), lv_has ls 4 [(0, .ref (ad 0)), (1, .int x1), (2, .int x2), (3, .int x3)] → St D A s (wX5 cI ad deeds finding asked upper lower m_at wrong rowSize rows textSize texts spare now draft tried past kept keptPast keptDeeds findings worth) H locs → W p l e rmX5_asHeavy s m AV below meth c H locs 0 0 Q (F0 m 4 ls []) := by
    intro x1 x2_o KE n
    induction n with
    | zero =>
      intro x2 x3 h
      exact nomatch (show none = some _ from h)
    | succ n ih =>
      intro x2 x3 h ls H locs hl hG
      have h : fX5_asHeavy_B4 now x1 (fX5_asHeavy_L4 now x1 n) x2 x3 = some x2_o := h
      have hj_49 : ∀ (x3 : Int32) (k0 : Int32) (k1 : Int32) , fX5_asHeavy_j49 (fX5_asHeavy_L4 now x1 n) now x1 x3 k0 k1 = some x2_o → ∀ (ls : Array Slot) (H : Heap) (locs : List Loc), lv_has ls 4 [(0, .ref (ad 0)), (1, .int x1), (3, .int x3)] → St D A s (wX5 cI ad deeds finding asked upper lower m_at wrong rowSize rows textSize texts spare now draft tried past kept keptPast keptDeeds findings worth) H locs → W p l e rmX5_asHeavy s m AV below meth c H locs 0 0 Q (F0 m 49 ls [.int k1, .int k0]) := by
        intro x3 k0 k1 h ls H locs hl hG
        unfold fX5_asHeavy_j49 at h
        refine lv_iadd hx hb dX5_asHeavy_49 ?_
        refine lv_istore_n (lv' := [(2, .int (k0 + k1)), (0, .ref (ad 0)), (1, .int x1), (3, .int x3)]) hx hb dX5_asHeavy_50 rfl hl (by decide) rfl (fun ls hl => ?_)
        refine lv_iinc (v := (x3 + 1)) (lv' := [(3, .int (x3 + 1)), (2, .int (k0 + k1)), (0, .ref (ad 0)), (1, .int x1)]) hx hb dX5_asHeavy_51 hl (k := 3) rfl rfl (by decide) rfl (fun ls hl => ?_)
        refine lv_goto (tgt := 4) hx hb dX5_asHeavy_54 (by decide) ?_
        exact ih _ _ h _ _ _ (lv_sub hl [2, 3, 1, 0] rfl) hG
      unfold fX5_asHeavy_B4 at h
      refine lv_iload_n hx hb dX5_asHeavy_4 rfl (lv_at hl 3 rfl) ?_
      refine lv_aload_n hx hb dX5_asHeavy_5 rfl (lv_at hl 0 rfl) ?_
      refine x_get hc hG 0 rfl iX5 5 lX5_25 rfl dX5_asHeavy_6 ?_
      refine lv_iconst (v := 1) hx hb dX5_asHeavy_9 (by decide) ?_
      obtain ⟨v10, e10, h⟩ := bd1_some h
      refine x_ald hc hG 6 rfl e10 dX5_asHeavy_10 ?_
      refine lv_icmp_ge (tgt := 57) hx hb dX5_asHeavy_11 (by decide) (fun c11 => ?_) (fun c11 => ?_)
      · rw [if_pos c11] at h
        cases h
        exact KE _ _ _ (lv_sub hl [0, 2] rfl) hG
      · rw [if_neg c11] at h
        refine lv_iload_n hx hb dX5_asHeavy_14 rfl (lv_at hl 2 rfl) ?_
        refine lv_aload_n hx hb dX5_asHeavy_15 rfl (lv_at hl 0 rfl) ?_
        refine x_get hc hG 0 rfl iX5 5 lX5_25 rfl dX5_asHeavy_16 ?_
        refine lv_iconst (v := 5) hx hb dX5_asHeavy_19 (by decide) ?_
        refine lv_iconst (v := 5) hx hb dX5_asHeavy_20 (by decide) ?_
        refine lv_iload_n hx hb dX5_asHeavy_21 rfl (lv_at hl 3 rfl) ?_
        refine lv_imul hx hb dX5_asHeavy_22 ?_
        refine lv_iadd hx hb dX5_asHeavy_23 ?_
        obtain ⟨v24, e24, h⟩ := bd1_some h
        refine x_ald hc hG 6 rfl e24 dX5_asHeavy_24 ?_
        obtain ⟨v25, e25, h⟩ := bd1_some h
        refine x_si0 (rest := [.int x2]) hc hG (cc_X5_weightOf v24 v25 e25) lX5_167 ⟨rfl, rfl, by decide, by decide⟩ rfl hl.1 (Nat.le_of_ble_eq_true rfl) rfl dX5_asHeavy_25 (fun H locs hG => ?_)
        refine lv_aload_n hx hb dX5_asHeavy_28 rfl (lv_at hl 0 rfl) ?_
        refine x_get hc hG 0 rfl iX5 5 lX5_25 rfl dX5_asHeavy_29 ?_
        refine lv_iconst (v := 5) hx hb dX5_asHeavy_32 (by decide) ?_
        refine lv_iconst (v := 5) hx hb dX5_asHeavy_33 (by decide) ?_
        refine lv_iload_n hx hb dX5_asHeavy_34 rfl (lv_at hl 1 rfl) ?_
        refine lv_imul hx hb dX5_asHeavy_35 ?_
        refine lv_iadd hx hb dX5_asHeavy_36 ?_
        obtain ⟨v37, e37, h⟩ := bd1_some h
        refine x_ald hc hG 6 rfl e37 dX5_asHeavy_37 ?_
        obtain ⟨v38, e38, h⟩ := bd1_some h
        refine x_si0 (rest := [.int v25, .int x2]) hc hG (cc_X5_weightOf v37 v38 e38) lX5_167 ⟨rfl, rfl, by decide, by decide⟩ rfl hl.1 (Nat.le_of_ble_eq_true rfl) rfl dX5_asHeavy_38 (fun H locs hG => ?_)
        refine lv_icmp_ne (tgt := 48) hx hb dX5_asHeavy_41 (by decide) (fun c41 => ?_) (fun c41 => ?_)
        · rw [if_neg c41] at h
          refine lv_iconst (v := 0) hx hb dX5_asHeavy_48 (by decide) ?_
          exact hj_49 _ _ _ h _ _ _ (lv_sub hl [0, 1, 3] rfl) hG
        · rw [if_pos c41] at h
          refine lv_iconst (v := 1) hx hb dX5_asHeavy_44 (by decide) ?_
          refine lv_goto (tgt := 49) hx hb dX5_asHeavy_45 (by decide) ?_
          exact hj_49 _ _ _ h _ _ _ (lv_sub hl [0, 1, 3] rfl) hG
  unfold fX5_asHeavy at h
  refine lv_iconst (v := 0) hx hb dX5_asHeavy_0 (by decide) ?_
  refine lv_istore_n (lv' := [(2, .int 0), (0, .ref (ad 0)), (1, .int x1)]) hx hb dX5_asHeavy_1 rfl hl (by decide) rfl (fun ls hl => ?_)
  refine lv_iconst (v := 0) hx hb dX5_asHeavy_2 (by decide) ?_
  refine lv_istore_n (lv' := [(3, .int 0), (2, .int 0), (0, .ref (ad 0)), (1, .int x1)]) hx hb dX5_asHeavy_3 rfl hl (by decide) rfl (fun ls hl => ?_)
  obtain ⟨x2_L4, e4, h⟩ := bd1_some h
  refine hL_4 _ _ (fun ls H locs hl hG => ?_) _ _ _ e4 _ _ _ (lv_sub hl [2, 3, 1, 0] rfl) hG
  refine lv_iload_n hx hb dX5_asHeavy_57 rfl (lv_at hl 1 rfl) ?_
  cases h
  exact hret _ _ _ _ hG dX5_asHeavy_58 rfl
set_option maxRecDepth 100000 in
set_option maxHeartbeats 4000000 in
theorem cc_X5_mark {l : Launch} {D : va_G} {cI : ClassId} {tL : Nat} (ad : Nat → Nat) (deeds : Int32) (finding : Int32) (asked : Int32) (upper : Int64) (lower : Int64) (m_at : Int32) (wrong : Int32) (rowSize : Nat → Int32) (rows : Nat → Int32) (textSize : Nat → Int32) (texts : Nat → Int32) (spare : Nat → Int32) (now : Nat → Int32) (draft : Nat → Int32) (tried : Nat → Int32) (past : Nat → Int32) (kept : Nat → Int32) (keptPast : Nat → Int32) (keptDeeds : Nat → Int32) (findings : Nat → Int32) (worth : Nat → Int32) (x1 : Int32) (x2 : Int32) (r' : Int32) (finding' : Int32) (findings' : Nat → Int32) (h : fX5_mark finding now findings x1 x2 = some (r', finding', findings')) : Ci l D cI tL yX5_mark cX5_mark 4 .int rmX5_mark (wX5 cI ad deeds finding asked upper lower m_at wrong rowSize rows textSize texts spare now draft tried past kept keptPast keptDeeds findings worth) [.ref (ad 0), .int x1, .int x2] r' (wX5 cI ad deeds finding' asked upper lower m_at wrong rowSize rows textSize texts spare now draft tried past kept keptPast keptDeeds findings' worth) := by
  refine Ci_of (own := RX5) (by decide) (Nat.le_of_ble_eq_true rfl) rfl ?_
  intro p e s m below meth c Q A AV hc hret ls hl hG
  obtain ⟨hx, hb, hml, hown, hts, hK, hA, hz⟩ := id hc
  have hl : lv_has ls 4 [(0, .ref (ad 0)), (1, .int x1), (2, .int x2)] := hl
  unfold fX5_mark at h
  refine lv_aload_n hx hb dX5_mark_0 rfl (lv_at hl 0 rfl) ?_
  refine lv_iload_n hx hb dX5_mark_1 rfl (lv_at hl 1 rfl) ?_
  obtain ⟨v2, e2, h⟩ := bd1_some h
  refine x_vi (rest := []) (ws' := (wX5 cI ad deeds finding asked upper lower m_at wrong rowSize rows textSize texts spare now draft tried past kept keptPast keptDeeds findings worth)) hc hG (cc_X5_isPeel ad deeds finding asked upper lower m_at wrong rowSize rows textSize texts spare now draft tried past kept keptPast keptDeeds findings worth x1 v2 e2) [0, 1, 2, 3, 4, 5, 6, 7, 8, 9, 10, 11, 12, 13, 14] [] [0, 1, 2, 3, 4, 5, 6, 7, 8, 9, 10, 11, 12, 13, 14] rfl rfl rfl 0 rfl rfl lX5_170 ⟨rfl, rfl, by decide, by decide⟩ rfl hl.1 (Nat.le_of_ble_eq_true rfl) rfl dX5_mark_2 (fun H locs hG => ?_)
  refine lv_if_eq (tgt := 17) hx hb dX5_mark_5 (by decide) (fun c5 => ?_) (fun c5 => ?_)
  · rw [if_pos c5] at h
    refine lv_iconst (v := (-1)) hx hb dX5_mark_17 (by decide) ?_
    cases h
    exact hret _ _ _ _ hG dX5_mark_18 rfl
  · rw [if_neg c5] at h
    refine lv_iload_n hx hb dX5_mark_8 rfl (lv_at hl 2 rfl) ?_
    refine lv_iconst (v := 1) hx hb dX5_mark_9 (by decide) ?_
    refine lv_iconst (v := 5) hx hb dX5_mark_10 (by decide) ?_
    obtain ⟨v11, e11, h⟩ := bd1_some h
    refine x_si0 (rest := []) hc hG (cc_X5_in0 x2 1 5 v11 e11) lX5_63 ⟨rfl, rfl, by decide, by decide⟩ rfl hl.1 (Nat.le_of_ble_eq_true rfl) rfl dX5_mark_11 (fun H locs hG => ?_)
    refine lv_if_ne (tgt := 19) hx hb dX5_mark_14 (by decide) (fun c14 => ?_) (fun c14 => ?_)
    · rw [if_neg c14] at h
      refine lv_aload_n hx hb dX5_mark_19 rfl (lv_at hl 0 rfl) ?_
      refine x_get hc hG 0 rfl iX5 5 lX5_25 rfl dX5_mark_20 ?_
      refine lv_iconst (v := 5) hx hb dX5_mark_23 (by decide) ?_
      refine lv_iconst (v := 5) hx hb dX5_mark_24 (by decide) ?_
      refine lv_iload_n hx hb dX5_mark_25 rfl (lv_at hl 1 rfl) ?_
      refine lv_imul hx hb dX5_mark_26 ?_
      refine lv_iadd hx hb dX5_mark_27 ?_
      obtain ⟨v28, e28, h⟩ := bd1_some h
      refine x_ald hc hG 6 rfl e28 dX5_mark_28 ?_
      refine lv_iload_n hx hb dX5_mark_29 rfl (lv_at hl 2 rfl) ?_
      obtain ⟨v30, e30, h⟩ := bd1_some h
      refine x_si0 (rest := []) hc hG (cc_X5_isOf v28 x2 v30 e30) lX5_177 ⟨rfl, rfl, by decide, by decide⟩ rfl hl.1 (Nat.le_of_ble_eq_true rfl) rfl dX5_mark_30 (fun H locs hG => ?_)
      refine lv_if_ne (tgt := 42) hx hb dX5_mark_33 (by decide) (fun c33 => ?_) (fun c33 => ?_)
      · rw [if_neg c33] at h
        refine lv_aload_n hx hb dX5_mark_42 rfl (lv_at hl 0 rfl) ?_
        refine x_get hc hG 0 rfl iX5 5 lX5_25 rfl dX5_mark_43 ?_
        refine lv_iload_n hx hb dX5_mark_46 rfl (lv_at hl 1 rfl) ?_
        obtain ⟨v47, e47, h⟩ := bd1_some h
        refine x_si (rest := []) (ws' := (wX5 cI ad deeds finding asked upper lower m_at wrong rowSize rows textSize texts spare now draft tried past kept keptPast keptDeeds findings worth)) hc hG (cc_X5_coverOf (fun k => ad (6 + k)) 35 now x1 v47 e47) [6] [0, 1, 2, 3, 4, 5, 7, 8, 9, 10, 11, 12, 13, 14] [0, 1, 2, 3, 4, 5, 14, 6, 7, 8, 9, 10, 11, 12, 13] rfl rfl rfl lX5_144 ⟨rfl, rfl, by decide, by decide⟩ rfl hl.1 (Nat.le_of_ble_eq_true rfl) rfl dX5_mark_47 (fun H locs hG => ?_)
        refine lv_istore_n (lv' := [(3, .int v47), (0, .ref (ad 0)), (1, .int x1), (2, .int x2)]) hx hb dX5_mark_50 rfl hl (by decide) rfl (fun ls hl => ?_)
        refine lv_iload_n hx hb dX5_mark_51 rfl (lv_at hl 3 rfl) ?_
        by_cases c52_1 : x2 = 1
        · rw [if_pos c52_1] at h
          refine x_swK (tgt := 84) hx hb dX5_mark_52 c52_1 (by decide) (by decide) rfl (by decide) ?_
          refine lv_aload_n hx hb dX5_mark_84 rfl (lv_at hl 1 rfl) ?_
          refine lv_iload_n hx hb dX5_mark_85 rfl (lv_at hl 2 rfl) ?_
          refine lv_iconst (v := 0) hx hb dX5_mark_86 (by decide) ?_
          obtain ⟨v87, e87, h⟩ := bd1_some h
          refine x_vi (rest := []) (ws' := (wX5 cI ad deeds finding asked upper lower m_at wrong rowSize rows textSize texts spare now draft tried past kept keptPast keptDeeds findings worth)) hc hG (cc_X5_inStead ad deeds finding asked upper lower m_at wrong rowSize rows textSize texts spare now draft tried past kept keptPast keptDeeds findings worth x1 0 v87 e87) [0, 1, 2, 3, 4, 5, 6, 7, 8, 9, 10, 11, 12, 13, 14] [] [0, 1, 2, 3, 4, 5, 6, 7, 8, 9, 10, 11, 12, 13, 14] rfl rfl rfl 0 rfl rfl lX5_180 ⟨rfl, rfl, by decide, by decide⟩ rfl hl.1 (Nat.le_of_ble_eq_true rfl) rfl dX5_mark_87 (fun H locs hG => ?_)
          refine lv_iload_n hx hb dX5_mark_90 rfl (lv_at hl 0 rfl) ?_
          refine lv_iconst (v := (-1)) hx hb dX5_mark_91 (by decide) ?_
          refine lv_ixor hx hb dX5_mark_92 ?_
          refine lv_iand hx hb dX5_mark_93 ?_
          obtain ⟨v94, e94, h⟩ := bd1_some h
          refine x_si0 (rest := []) hc hG (cc_X5_ones (v87 &&& (v47 ^^^ (-1))) v94 e94) lX5_151 ⟨rfl, rfl, by decide, by decide⟩ rfl hl.1 (Nat.le_of_ble_eq_true rfl) rfl dX5_mark_94 (fun H locs hG => ?_)
          cases h
          exact hret _ _ _ _ hG dX5_mark_97 rfl
        rw [if_neg c52_1] at h
        by_cases c52_2 : x2 = 2
        · rw [if_pos c52_2] at h
          refine x_swK (tgt := 98) hx hb dX5_mark_52 c52_2 (by decide) (by decide) rfl (by decide) ?_
          refine lv_aload_n hx hb dX5_mark_98 rfl (lv_at hl 1 rfl) ?_
          refine lv_iload_n hx hb dX5_mark_99 rfl (lv_at hl 2 rfl) ?_
          obtain ⟨v100, e100, h⟩ := bd1_some h
          refine x_vi (rest := []) (ws' := (wX5 cI ad deeds finding asked upper lower m_at wrong rowSize rows textSize texts spare now draft tried past kept keptPast keptDeeds findings worth)) hc hG (cc_X5_asHeavy ad deeds finding asked upper lower m_at wrong rowSize rows textSize texts spare now draft tried past kept keptPast keptDeeds findings worth x1 v100 e100) [0, 1, 2, 3, 4, 5, 6, 7, 8, 9, 10, 11, 12, 13, 14] [] [0, 1, 2, 3, 4, 5, 6, 7, 8, 9, 10, 11, 12, 13, 14] rfl rfl rfl 0 rfl rfl lX5_183 ⟨rfl, rfl, by decide, by decide⟩ rfl hl.1 (Nat.le_of_ble_eq_true rfl) rfl dX5_mark_100 (fun H locs hG => ?_)
          cases h
          exact hret _ _ _ _ hG dX5_mark_103 rfl
        rw [if_neg c52_2] at h
        by_cases c52_3 : x2 = 3
        · rw [if_pos c52_3] at h
          refine x_swK (tgt := 104) hx hb dX5_mark_52 c52_3 (by decide) (by decide) rfl (by decide) ?_
          refine lv_iload_n hx hb dX5_mark_104 rfl (lv_at hl 0 rfl) ?_
          refine lv_aload_n hx hb dX5_mark_105 rfl (lv_at hl 1 rfl) ?_
          refine lv_iload_n hx hb dX5_mark_106 rfl (lv_at hl 2 rfl) ?_
          refine lv_iconst (v := 0) hx hb dX5_mark_107 (by decide) ?_
          obtain ⟨v108, e108, h⟩ := bd1_some h
          refine x_vi (rest := [.int v47]) (ws' := (wX5 cI ad deeds finding asked upper lower m_at wrong rowSize rows textSize texts spare now draft tried past kept keptPast keptDeeds findings worth)) hc hG (cc_X5_inStead ad deeds finding asked upper lower m_at wrong rowSize rows textSize texts spare now draft tried past kept keptPast keptDeeds findings worth x1 0 v108 e108) [0, 1, 2, 3, 4, 5, 6, 7, 8, 9, 10, 11, 12, 13, 14] [] [0, 1, 2, 3, 4, 5, 6, 7, 8, 9, 10, 11, 12, 13, 14] rfl rfl rfl 0 rfl rfl lX5_180 ⟨rfl, rfl, by decide, by decide⟩ rfl hl.1 (Nat.le_of_ble_eq_true rfl) rfl dX5_mark_108 (fun H locs hG => ?_)
          refine lv_iconst (v := (-1)) hx hb dX5_mark_111 (by decide) ?_
          refine lv_ixor hx hb dX5_mark_112 ?_
          refine lv_iand hx hb dX5_mark_113 ?_
          obtain ⟨v114, e114, h⟩ := bd1_some h
          refine x_si0 (rest := []) hc hG (cc_X5_ones (v47 &&& (v108 ^^^ (-1))) v114 e114) lX5_151 ⟨rfl, rfl, by decide, by decide⟩ rfl hl.1 (Nat.le_of_ble_eq_true rfl) rfl dX5_mark_114 (fun H locs hG => ?_)
          cases h
          exact hret _ _ _ _ hG dX5_mark_117 rfl
        rw [if_neg c52_3] at h
        by_cases c52_4 : x2 = 4
        · rw [if_pos c52_4] at h
          refine x_swK (tgt := 118) hx hb dX5_mark_52 c52_4 (by decide) (by decide) rfl (by decide) ?_
          refine lv_iload_n hx hb dX5_mark_118 rfl (lv_at hl 0 rfl) ?_
          refine lv_aload_n hx hb dX5_mark_119 rfl (lv_at hl 1 rfl) ?_
          refine lv_iload_n hx hb dX5_mark_120 rfl (lv_at hl 2 rfl) ?_
          refine lv_iconst (v := 1) hx hb dX5_mark_121 (by decide) ?_
          obtain ⟨v122, e122, h⟩ := bd1_some h
          refine x_vi (rest := [.int v47]) (ws' := (wX5 cI ad deeds finding asked upper lower m_at wrong rowSize rows textSize texts spare now draft tried past kept keptPast keptDeeds findings worth)) hc hG (cc_X5_inStead ad deeds finding asked upper lower m_at wrong rowSize rows textSize texts spare now draft tried past kept keptPast keptDeeds findings worth x1 1 v122 e122) [0, 1, 2, 3, 4, 5, 6, 7, 8, 9, 10, 11, 12, 13, 14] [] [0, 1, 2, 3, 4, 5, 6, 7, 8, 9, 10, 11, 12, 13, 14] rfl rfl rfl 0 rfl rfl lX5_180 ⟨rfl, rfl, by decide, by decide⟩ rfl hl.1 (Nat.le_of_ble_eq_true rfl) rfl dX5_mark_122 (fun H locs hG => ?_)
          refine lv_iconst (v := (-1)) hx hb dX5_mark_125 (by decide) ?_
          refine lv_ixor hx hb dX5_mark_126 ?_
          refine lv_iand hx hb dX5_mark_127 ?_
          obtain ⟨v128, e128, h⟩ := bd1_some h
          refine x_si0 (rest := []) hc hG (cc_X5_ones (v47 &&& (v122 ^^^ (-1))) v128 e128) lX5_151 ⟨rfl, rfl, by decide, by decide⟩ rfl hl.1 (Nat.le_of_ble_eq_true rfl) rfl dX5_mark_128 (fun H locs hG => ?_)
          cases h
          exact hret _ _ _ _ hG dX5_mark_131 rfl
        rw [if_neg c52_4] at h
        refine x_swD (tgt := 132) hx hb dX5_mark_52 [1, 2, 3, 4] (by decide) (List.forall_mem_cons.mpr ⟨lv_neT c52_1 (by decide), (List.forall_mem_cons.mpr ⟨lv_neT c52_2 (by decide), (List.forall_mem_cons.mpr ⟨lv_neT c52_3 (by decide), (List.forall_mem_cons.mpr ⟨lv_neT c52_4 (by decide), (List.forall_mem_nil _)⟩)⟩)⟩)⟩) (by decide) ?_
        refine lv_aload_n hx hb dX5_mark_132 rfl (lv_at hl 1 rfl) ?_
        refine lv_iload_n hx hb dX5_mark_133 rfl (lv_at hl 2 rfl) ?_
        refine lv_iconst (v := 2) hx hb dX5_mark_134 (by decide) ?_
        obtain ⟨v135, e135, h⟩ := bd1_some h
        refine x_vi (rest := []) (ws' := (wX5 cI ad deeds finding asked upper lower m_at wrong rowSize rows textSize texts spare now draft tried past kept keptPast keptDeeds findings worth)) hc hG (cc_X5_inStead ad deeds finding asked upper lower m_at wrong rowSize rows textSize texts spare now draft tried past kept keptPast keptDeeds findings worth x1 2 v135 e135) [0, 1, 2, 3, 4, 5, 6, 7, 8, 9, 10, 11, 12, 13, 14] [] [0, 1, 2, 3, 4, 5, 6, 7, 8, 9, 10, 11, 12, 13, 14] rfl rfl rfl 0 rfl rfl lX5_180 ⟨rfl, rfl, by decide, by decide⟩ rfl hl.1 (Nat.le_of_ble_eq_true rfl) rfl dX5_mark_135 (fun H locs hG => ?_)
        obtain ⟨v138, e138, h⟩ := bd1_some h
        refine x_si0 (rest := []) hc hG (cc_X5_ones v135 v138 e138) lX5_151 ⟨rfl, rfl, by decide, by decide⟩ rfl hl.1 (Nat.le_of_ble_eq_true rfl) rfl dX5_mark_138 (fun H locs hG => ?_)
        refine lv_iconst (v := 1) hx hb dX5_mark_141 (by decide) ?_
        refine lv_isub hx hb dX5_mark_142 ?_
        cases h
        exact hret _ _ _ _ hG dX5_mark_143 rfl
      · rw [if_pos c33] at h
        refine lv_aload_n hx hb dX5_mark_36 rfl (lv_at hl 0 rfl) ?_
        refine lv_iconst (v := 3) hx hb dX5_mark_37 (by decide) ?_
        obtain ⟨v38, finding_38, findings_38, e38, h⟩ := bd3_some h
        refine x_vi (rest := []) (ws' := (wX5 cI ad deeds finding_38 asked upper lower m_at wrong rowSize rows textSize texts spare now draft tried past kept keptPast keptDeeds findings_38 worth)) hc hG (cc_X5_found0 ad deeds finding asked upper lower m_at wrong rowSize rows textSize texts spare now draft tried past kept keptPast keptDeeds findings worth 3 v38 finding_38 findings_38 e38) [0, 1, 2, 3, 4, 5, 6, 7, 8, 9, 10, 11, 12, 13, 14] [] [0, 1, 2, 3, 4, 5, 6, 7, 8, 9, 10, 11, 12, 13, 14] rfl rfl rfl 0 rfl rfl lX5_71 ⟨rfl, rfl, by decide, by decide⟩ rfl hl.1 (Nat.le_of_ble_eq_true rfl) rfl dX5_mark_38 (fun H locs hG => ?_)
        cases h
        exact hret _ _ _ _ hG dX5_mark_41 rfl
    · rw [if_pos c14] at h
      refine lv_iconst (v := (-1)) hx hb dX5_mark_17 (by decide) ?_
      cases h
      exact hret _ _ _ _ hG dX5_mark_18 rfl
set_option maxRecDepth 100000 in
set_option maxHeartbeats 4000000 in
theorem cc_X5_notes {l : Launch} {D : va_G} {cI : ClassId} {tL : Nat} (ad : Nat → Nat) (deeds : Int32) (finding : Int32) (asked : Int32) (upper : Int64) (lower : Int64) (m_at : Int32) (wrong : Int32) (rowSize : Nat → Int32) (rows : Nat → Int32) (textSize : Nat → Int32) (texts : Nat → Int32) (spare : Nat → Int32) (now : Nat → Int32) (draft : Nat → Int32) (tried : Nat → Int32) (past : Nat → Int32) (kept : Nat → Int32) (keptPast : Nat → Int32) (keptDeeds : Nat → Int32) (findings : Nat → Int32) (worth : Nat → Int32) (deeds' : Int32) (past' : Nat → Int32) (h : fX5_notes deeds now past = some (deeds', past')) : Cv l D cI tL yX5_notes cX5_notes 1 rmX5_notes (wX5 cI ad deeds finding asked upper lower m_at wrong rowSize rows textSize texts spare now draft tried past kept keptPast keptDeeds findings worth) [.ref (ad 0)] (wX5 cI ad deeds' finding asked upper lower m_at wrong rowSize rows textSize texts spare now draft tried past' kept keptPast keptDeeds findings worth) := by
  refine Cv_of (own := RX5) (by decide) (Nat.le_of_ble_eq_true rfl) rfl ?_
  intro p e s m below meth c Q A AV hc hret ls hl hG
  obtain ⟨hx, hb, hml, hown, hts, hK, hA, hz⟩ := id hc
  have hl : lv_has ls 1 [(0, .ref (ad 0))] := hl
  unfold fX5_notes at h
  refine lv_aload_n hx hb dX5_notes_0 rfl (lv_at hl 0 rfl) ?_
  refine x_get hc hG 0 rfl iX5 5 lX5_25 rfl dX5_notes_1 ?_
  refine lv_iconst (v := 0) hx hb dX5_notes_4 (by decide) ?_
  refine lv_aload_n hx hb dX5_notes_5 rfl (lv_at hl 0 rfl) ?_
  refine x_get hc hG 0 rfl iX5 8 lX5_34 rfl dX5_notes_6 ?_
  refine lv_bipush (v := 35) hx hb dX5_notes_9 (by decide) ?_
  refine lv_aload_n hx hb dX5_notes_11 rfl (lv_at hl 0 rfl) ?_
  refine x_get hc hG 0 rfl iX5 9 lX5_124 rfl dX5_notes_12 ?_
  refine lv_imul hx hb dX5_notes_15 ?_
  refine lv_bipush (v := 35) hx hb dX5_notes_16 (by decide) ?_
  obtain ⟨past_18, e18, h⟩ := bd1_some h
  refine x_sv (rest := []) (ws' := (wX5 cI ad deeds finding asked upper lower m_at wrong rowSize rows textSize texts spare now draft tried past_18 kept keptPast keptDeeds findings worth)) hc hG (cc_X5_copies (fun k => match k with | 0 => ad 6 | _ => ad 9) 35 1400 now past 0 (35 * deeds) 35 past_18 e18) [6, 9] [0, 1, 2, 3, 4, 5, 7, 8, 10, 11, 12, 13, 14] [0, 1, 2, 3, 4, 5, 13, 6, 7, 14, 8, 9, 10, 11, 12] rfl rfl rfl lX5_120 ⟨rfl, rfl, by decide, by decide⟩ rfl hl.1 (Nat.le_of_ble_eq_true rfl) rfl dX5_notes_18 (fun H locs hG => ?_)
  refine lv_aload_n hx hb dX5_notes_21 rfl (lv_at hl 0 rfl) ?_
  refine lv_dup hx hb dX5_notes_22 rfl ?_
  refine x_get hc hG 0 rfl iX5 9 lX5_124 rfl dX5_notes_23 ?_
  refine lv_iconst (v := 1) hx hb dX5_notes_26 (by decide) ?_
  refine lv_iadd hx hb dX5_notes_27 ?_
  refine x_put (ws' := (wX5 cI ad (deeds + 1) finding asked upper lower m_at wrong rowSize rows textSize texts spare now draft tried past_18 kept keptPast keptDeeds findings worth)) hc hG 0 rfl iX5 tyX5 tyX5_ok nmX5 9 lX5_124 rfl rfl rfl (Nat.le_of_ble_eq_true rfl) rfl dX5_notes_28 (fun H locs hG => ?_)
  cases h
  exact hret _ _ _ _ hG dX5_notes_31
set_option maxRecDepth 100000 in
set_option maxHeartbeats 4000000 in
theorem cc_X5_morning {l : Launch} {D : va_G} {cI : ClassId} {tL : Nat} (ad : Nat → Nat) (deeds : Int32) (finding : Int32) (asked : Int32) (upper : Int64) (lower : Int64) (m_at : Int32) (wrong : Int32) (rowSize : Nat → Int32) (rows : Nat → Int32) (textSize : Nat → Int32) (texts : Nat → Int32) (spare : Nat → Int32) (now : Nat → Int32) (draft : Nat → Int32) (tried : Nat → Int32) (past : Nat → Int32) (kept : Nat → Int32) (keptPast : Nat → Int32) (keptDeeds : Nat → Int32) (findings : Nat → Int32) (worth : Nat → Int32) (r' : Int32) (deeds' : Int32) (now' : Nat → Int32) (past' : Nat → Int32) (h : fX5_morning deeds now past = some (r', deeds', now', past')) : Ci l D cI tL yX5_morning cX5_morning 1 .int rmX5_morning (wX5 cI ad deeds finding asked upper lower m_at wrong rowSize rows textSize texts spare now draft tried past kept keptPast keptDeeds findings worth) [.ref (ad 0)] r' (wX5 cI ad deeds' finding asked upper lower m_at wrong rowSize rows textSize texts spare now' draft tried past' kept keptPast keptDeeds findings worth) := by
  refine Ci_of (own := RX5) (by decide) (Nat.le_of_ble_eq_true rfl) rfl ?_
  intro p e s m below meth c Q A AV hc hret ls hl hG
  obtain ⟨hx, hb, hml, hown, hts, hK, hA, hz⟩ := id hc
  have hl : lv_has ls 1 [(0, .ref (ad 0))] := hl
  unfold fX5_morning at h
  refine lv_aload_n hx hb dX5_morning_0 rfl (lv_at hl 0 rfl) ?_
  obtain ⟨v1, e1, h⟩ := bd1_some h
  refine x_vi (rest := []) (ws' := (wX5 cI ad deeds finding asked upper lower m_at wrong rowSize rows textSize texts spare now draft tried past kept keptPast keptDeeds findings worth)) hc hG (cc_X5_isAny ad deeds finding asked upper lower m_at wrong rowSize rows textSize texts spare now draft tried past kept keptPast keptDeeds findings worth v1 e1) [0, 1, 2, 3, 4, 5, 6, 7, 8, 9, 10, 11, 12, 13, 14] [] [0, 1, 2, 3, 4, 5, 6, 7, 8, 9, 10, 11, 12, 13, 14] rfl rfl rfl 0 rfl rfl lX5_186 ⟨rfl, rfl, by decide, by decide⟩ rfl hl.1 (Nat.le_of_ble_eq_true rfl) rfl dX5_morning_1 (fun H locs hG => ?_)
  refine lv_if_ne (tgt := 10) hx hb dX5_morning_4 (by decide) (fun c4 => ?_) (fun c4 => ?_)
  · rw [if_neg c4] at h
    refine lv_aload_n hx hb dX5_morning_10 rfl (lv_at hl 0 rfl) ?_
    refine x_get hc hG 0 rfl iX5 9 lX5_124 rfl dX5_morning_11 ?_
    refine lv_bipush (v := 40) hx hb dX5_morning_14 (by decide) ?_
    refine lv_icmp_ne (tgt := 22) hx hb dX5_morning_16 (by decide) (fun c16 => ?_) (fun c16 => ?_)
    · rw [if_neg c16] at h
      refine lv_aload_n hx hb dX5_morning_22 rfl (lv_at hl 0 rfl) ?_
      obtain ⟨deeds_23, past_23, e23, h⟩ := bd2_some h
      refine x_vv (rest := []) (ws' := (wX5 cI ad deeds_23 finding asked upper lower m_at wrong rowSize rows textSize texts spare now draft tried past_23 kept keptPast keptDeeds findings worth)) hc hG (cc_X5_notes ad deeds finding asked upper lower m_at wrong rowSize rows textSize texts spare now draft tried past kept keptPast keptDeeds findings worth deeds_23 past_23 e23) [0, 1, 2, 3, 4, 5, 6, 7, 8, 9, 10, 11, 12, 13, 14] [] [0, 1, 2, 3, 4, 5, 6, 7, 8, 9, 10, 11, 12, 13, 14] rfl rfl rfl 0 rfl rfl lX5_190 ⟨rfl, rfl, by decide, by decide⟩ rfl hl.1 (Nat.le_of_ble_eq_true rfl) rfl dX5_morning_23 (fun H locs hG => ?_)
      refine lv_aload_n hx hb dX5_morning_26 rfl (lv_at hl 0 rfl) ?_
      refine x_get hc hG 0 rfl iX5 5 lX5_25 rfl dX5_morning_27 ?_
      obtain ⟨v30, now_30, e30, h⟩ := bd2_some h
      refine x_si (rest := []) (ws' := (wX5 cI ad deeds_23 finding asked upper lower m_at wrong rowSize rows textSize texts spare now_30 draft tried past_23 kept keptPast keptDeeds findings worth)) hc hG (cc_X5_passes (fun k => ad (6 + k)) 35 now v30 now_30 e30) [6] [0, 1, 2, 3, 4, 5, 7, 8, 9, 10, 11, 12, 13, 14] [0, 1, 2, 3, 4, 5, 14, 6, 7, 8, 9, 10, 11, 12, 13] rfl rfl rfl lX5_193 ⟨rfl, rfl, by decide, by decide⟩ rfl hl.1 (Nat.le_of_ble_eq_true rfl) rfl dX5_morning_30 (fun H locs hG => ?_)
      cases h
      exact hret _ _ _ _ hG dX5_morning_33 rfl
    · rw [if_pos c16] at h
      refine lv_bipush (v := (-2)) hx hb dX5_morning_19 (by decide) ?_
      cases h
      exact hret _ _ _ _ hG dX5_morning_21 rfl
  · rw [if_pos c4] at h
    refine lv_bipush (v := (-4)) hx hb dX5_morning_7 (by decide) ?_
    cases h
    exact hret _ _ _ _ hG dX5_morning_9 rfl
set_option maxRecDepth 100000 in
set_option maxHeartbeats 4000000 in
theorem cc_X5_shift {l : Launch} {D : va_G} {cI : ClassId} {tL : Nat} (ad : Nat → Nat) (deeds : Int32) (finding : Int32) (asked : Int32) (upper : Int64) (lower : Int64) (m_at : Int32) (wrong : Int32) (rowSize : Nat → Int32) (rows : Nat → Int32) (textSize : Nat → Int32) (texts : Nat → Int32) (spare : Nat → Int32) (now : Nat → Int32) (draft : Nat → Int32) (tried : Nat → Int32) (past : Nat → Int32) (kept : Nat → Int32) (keptPast : Nat → Int32) (keptDeeds : Nat → Int32) (findings : Nat → Int32) (worth : Nat → Int32) (x1 : Int32) (x2 : Int32) (r' : Int32) (deeds' : Int32) (now' : Nat → Int32) (past' : Nat → Int32) (h : fX5_shift deeds now past x1 x2 = some (r', deeds', now', past')) : Ci l D cI tL yX5_shift cX5_shift 4 .int rmX5_shift (wX5 cI ad deeds finding asked upper lower m_at wrong rowSize rows textSize texts spare now draft tried past kept keptPast keptDeeds findings worth) [.ref (ad 0), .int x1, .int x2] r' (wX5 cI ad deeds' finding asked upper lower m_at wrong rowSize rows textSize texts spare now' draft tried past' kept keptPast keptDeeds findings worth) := by
  refine Ci_of (own := RX5) (by decide) (Nat.le_of_ble_eq_true rfl) rfl ?_
  intro p e s m below meth c Q A AV hc hret ls hl hG
  obtain ⟨hx, hb, hml, hown, hts, hK, hA, hz⟩ := id hc
  have hl : lv_has ls 4 [(0, .ref (ad 0)), (1, .int x1), (2, .int x2)] := hl
  unfold fX5_shift at h
  refine lv_aload_n hx hb dX5_shift_0 rfl (lv_at hl 0 rfl) ?_
  refine lv_iload_n hx hb dX5_shift_1 rfl (lv_at hl 1 rfl) ?_
  obtain ⟨v2, e2, h⟩ := bd1_some h
  refine x_vi (rest := []) (ws' := (wX5 cI ad deeds finding asked upper lower m_at wrong rowSize rows textSize texts spare now draft tried past kept keptPast keptDeeds findings worth)) hc hG (cc_X5_isPeel ad deeds finding asked upper lower m_at wrong rowSize rows textSize texts spare now draft tried past kept keptPast keptDeeds findings worth x1 v2 e2) [0, 1, 2, 3, 4, 5, 6, 7, 8, 9, 10, 11, 12, 13, 14] [] [0, 1, 2, 3, 4, 5, 6, 7, 8, 9, 10, 11, 12, 13, 14] rfl rfl rfl 0 rfl rfl lX5_170 ⟨rfl, rfl, by decide, by decide⟩ rfl hl.1 (Nat.le_of_ble_eq_true rfl) rfl dX5_shift_2 (fun H locs hG => ?_)
  refine lv_if_eq (tgt := 18) hx hb dX5_shift_5 (by decide) (fun c5 => ?_) (fun c5 => ?_)
  · rw [if_pos c5] at h
    refine lv_iconst (v := (-1)) hx hb dX5_shift_18 (by decide) ?_
    cases h
    exact hret _ _ _ _ hG dX5_shift_19 rfl
  · rw [if_neg c5] at h
    refine lv_iload_n hx hb dX5_shift_8 rfl (lv_at hl 2 rfl) ?_
    refine lv_iconst (v := 0) hx hb dX5_shift_9 (by decide) ?_
    refine lv_bipush (v := 15) hx hb dX5_shift_10 (by decide) ?_
    obtain ⟨v12, e12, h⟩ := bd1_some h
    refine x_si0 (rest := []) hc hG (cc_X5_in0 x2 0 15 v12 e12) lX5_63 ⟨rfl, rfl, by decide, by decide⟩ rfl hl.1 (Nat.le_of_ble_eq_true rfl) rfl dX5_shift_12 (fun H locs hG => ?_)
    refine lv_if_ne (tgt := 20) hx hb dX5_shift_15 (by decide) (fun c15 => ?_) (fun c15 => ?_)
    · rw [if_neg c15] at h
      refine lv_aload_n hx hb dX5_shift_20 rfl (lv_at hl 0 rfl) ?_
      refine x_get hc hG 0 rfl iX5 5 lX5_25 rfl dX5_shift_21 ?_
      refine lv_iconst (v := 5) hx hb dX5_shift_24 (by decide) ?_
      refine lv_iconst (v := 5) hx hb dX5_shift_25 (by decide) ?_
      refine lv_iload_n hx hb dX5_shift_26 rfl (lv_at hl 1 rfl) ?_
      refine lv_imul hx hb dX5_shift_27 ?_
      refine lv_iadd hx hb dX5_shift_28 ?_
      refine lv_iconst (v := 1) hx hb dX5_shift_29 (by decide) ?_
      refine lv_iadd hx hb dX5_shift_30 ?_
      obtain ⟨v31, e31, h⟩ := bd1_some h
      refine x_ald hc hG 6 rfl e31 dX5_shift_31 ?_
      refine lv_istore_n (lv' := [(3, .int v31), (0, .ref (ad 0)), (1, .int x1), (2, .int x2)]) hx hb dX5_shift_32 rfl hl (by decide) rfl (fun ls hl => ?_)
      refine lv_iload_n hx hb dX5_shift_33 rfl (lv_at hl 0 rfl) ?_
      refine lv_iload_n hx hb dX5_shift_34 rfl (lv_at hl 3 rfl) ?_
      refine lv_icmp_ne (tgt := 41) hx hb dX5_shift_35 (by decide) (fun c35 => ?_) (fun c35 => ?_)
      · rw [if_neg c35] at h
        refine lv_aload_n hx hb dX5_shift_41 rfl (lv_at hl 1 rfl) ?_
        refine x_get hc hG 0 rfl iX5 9 lX5_124 rfl dX5_shift_42 ?_
        refine lv_bipush (v := 40) hx hb dX5_shift_45 (by decide) ?_
        refine lv_icmp_ne (tgt := 53) hx hb dX5_shift_47 (by decide) (fun c47 => ?_) (fun c47 => ?_)
        · rw [if_neg c47] at h
          refine lv_aload_n hx hb dX5_shift_53 rfl (lv_at hl 1 rfl) ?_
          obtain ⟨deeds_54, past_54, e54, h⟩ := bd2_some h
          refine x_vv (rest := []) (ws' := (wX5 cI ad deeds_54 finding asked upper lower m_at wrong rowSize rows textSize texts spare now draft tried past_54 kept keptPast keptDeeds findings worth)) hc hG (cc_X5_notes ad deeds finding asked upper lower m_at wrong rowSize rows textSize texts spare now draft tried past kept keptPast keptDeeds findings worth deeds_54 past_54 e54) [0, 1, 2, 3, 4, 5, 6, 7, 8, 9, 10, 11, 12, 13, 14] [] [0, 1, 2, 3, 4, 5, 6, 7, 8, 9, 10, 11, 12, 13, 14] rfl rfl rfl 0 rfl rfl lX5_190 ⟨rfl, rfl, by decide, by decide⟩ rfl hl.1 (Nat.le_of_ble_eq_true rfl) rfl dX5_shift_54 (fun H locs hG => ?_)
          refine lv_aload_n hx hb dX5_shift_57 rfl (lv_at hl 1 rfl) ?_
          refine x_get hc hG 0 rfl iX5 5 lX5_25 rfl dX5_shift_58 ?_
          refine lv_iconst (v := 5) hx hb dX5_shift_61 (by decide) ?_
          refine lv_iconst (v := 5) hx hb dX5_shift_62 (by decide) ?_
          refine lv_iload_n hx hb dX5_shift_63 rfl (lv_at hl 2 rfl) ?_
          refine lv_imul hx hb dX5_shift_64 ?_
          refine lv_iadd hx hb dX5_shift_65 ?_
          refine lv_iconst (v := 1) hx hb dX5_shift_66 (by decide) ?_
          refine lv_iadd hx hb dX5_shift_67 ?_
          refine lv_iload_n hx hb dX5_shift_68 rfl (lv_at hl 3 rfl) ?_
          obtain ⟨now_69, e69, h⟩ := bd1_some h
          refine x_ast (ws' := (wX5 cI ad deeds_54 finding asked upper lower m_at wrong rowSize rows textSize texts spare now_69 draft tried past_54 kept keptPast keptDeeds findings worth)) hc hG 6 rfl e69 rfl dX5_shift_69 (fun H locs hG => ?_)
          refine lv_iload_n hx hb dX5_shift_70 rfl (lv_at hl 0 rfl) ?_
          cases h
          exact hret _ _ _ _ hG dX5_shift_71 rfl
        · rw [if_pos c47] at h
          refine lv_bipush (v := (-2)) hx hb dX5_shift_50 (by decide) ?_
          cases h
          exact hret _ _ _ _ hG dX5_shift_52 rfl
      · rw [if_pos c35] at h
        refine lv_bipush (v := (-4)) hx hb dX5_shift_38 (by decide) ?_
        cases h
        exact hret _ _ _ _ hG dX5_shift_40 rfl
    · rw [if_pos c15] at h
      refine lv_iconst (v := (-1)) hx hb dX5_shift_18 (by decide) ?_
      cases h
      exact hret _ _ _ _ hG dX5_shift_19 rfl
