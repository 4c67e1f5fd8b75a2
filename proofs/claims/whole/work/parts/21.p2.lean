/-! ===== printed by wip/whole/gen.py: contracts of PeelReadings$Shelf ===== -/
set_option maxRecDepth 100000 in
set_option maxHeartbeats 4000000 in
theorem cc_X2_has {l : Launch} {D : va_G} {cI : ClassId} {tL : Nat} (ad : Nat → Nat) (nI : Nat) (nS : Nat) (width : Int32) (items : Nat → Int32) (sizes : Nat → Int32) (x1 : Int32) (x2 : Int32) (r' : Int32) (h : fX2_has nS sizes x1 x2 = some r') : Ci l D cI tL yX2_has cX2_has 3 .boolean rmX2_has (wX2 cI ad nI nS width items sizes) [.ref (ad 0), .int x1, .int x2] r' (wX2 cI ad nI nS width items sizes) := by
  refine Ci_of (own := RX2) (by decide) (Nat.le_of_ble_eq_true rfl) rfl ?_
  intro p e s m below meth c Q A AV hc hret ls hl hG
  obtain ⟨hx, hb, hml, hown, hts, hK, hA, hz⟩ := id hc
  have hl : lv_has ls 3 [(0, .ref (ad 0)), (1, .int x1), (2, .int x2)] := hl
  unfold fX2_has at h
  refine lv_iload_n hx hb dX2_has_0 rfl (lv_at hl 1 rfl) ?_
  refine lv_if_lt (tgt := 31) hx hb dX2_has_1 (by decide) (fun c1 => ?_) (fun c1 => ?_)
  · rw [if_pos c1] at h
    refine lv_iconst (v := 0) hx hb dX2_has_31 (by decide) ?_
    cases h
    exact hret _ _ _ _ hG dX2_has_32 rfl
  · rw [if_neg c1] at h
    refine lv_iload_n hx hb dX2_has_4 rfl (lv_at hl 1 rfl) ?_
    refine lv_aload_n hx hb dX2_has_5 rfl (lv_at hl 0 rfl) ?_
    refine x_get hc hG 0 rfl iX2 1 lX2_13 rfl dX2_has_6 ?_
    refine x_alen hc hG 2 rfl dX2_has_9 ?_
    refine lv_icmp_ge (tgt := 31) hx hb dX2_has_10 (by decide) (fun c10 => ?_) (fun c10 => ?_)
    · rw [if_pos c10] at h
      refine lv_iconst (v := 0) hx hb dX2_has_31 (by decide) ?_
      cases h
      exact hret _ _ _ _ hG dX2_has_32 rfl
    · rw [if_neg c10] at h
      refine lv_iload_n hx hb dX2_has_13 rfl (lv_at hl 2 rfl) ?_
      refine lv_if_lt (tgt := 31) hx hb dX2_has_14 (by decide) (fun c14 => ?_) (fun c14 => ?_)
      · rw [if_pos c14] at h
        refine lv_iconst (v := 0) hx hb dX2_has_31 (by decide) ?_
        cases h
        exact hret _ _ _ _ hG dX2_has_32 rfl
      · rw [if_neg c14] at h
        refine lv_iload_n hx hb dX2_has_17 rfl (lv_at hl 2 rfl) ?_
        refine lv_aload_n hx hb dX2_has_18 rfl (lv_at hl 0 rfl) ?_
        refine x_get hc hG 0 rfl iX2 1 lX2_13 rfl dX2_has_19 ?_
        refine lv_iload_n hx hb dX2_has_22 rfl (lv_at hl 1 rfl) ?_
        obtain ⟨v23, e23, h⟩ := bd1_some h
        refine x_ald hc hG 2 rfl e23 dX2_has_23 ?_
        refine lv_icmp_ge (tgt := 31) hx hb dX2_has_24 (by decide) (fun c24 => ?_) (fun c24 => ?_)
        · rw [if_pos c24] at h
          refine lv_iconst (v := 0) hx hb dX2_has_31 (by decide) ?_
          cases h
          exact hret _ _ _ _ hG dX2_has_32 rfl
        · rw [if_neg c24] at h
          refine lv_iconst (v := 1) hx hb dX2_has_27 (by decide) ?_
          refine lv_goto (tgt := 32) hx hb dX2_has_28 (by decide) ?_
          cases h
          exact hret _ _ _ _ hG dX2_has_32 rfl
set_option maxRecDepth 100000 in
set_option maxHeartbeats 4000000 in
theorem cc_X2_get {l : Launch} {D : va_G} {cI : ClassId} {tL : Nat} (ad : Nat → Nat) (nI : Nat) (nS : Nat) (width : Int32) (items : Nat → Int32) (sizes : Nat → Int32) (x1 : Int32) (x2 : Int32) (r' : Int32) (h : fX2_get nI nS width items sizes x1 x2 = some r') : Ci l D cI tL yX2_get cX2_get 3 .int rmX2_get (wX2 cI ad nI nS width items sizes) [.ref (ad 0), .int x1, .int x2] r' (wX2 cI ad nI nS width items sizes) := by
  refine Ci_of (own := RX2) (by decide) (Nat.le_of_ble_eq_true rfl) rfl ?_
  intro p e s m below meth c Q A AV hc hret ls hl hG
  obtain ⟨hx, hb, hml, hown, hts, hK, hA, hz⟩ := id hc
  have hl : lv_has ls 3 [(0, .ref (ad 0)), (1, .int x1), (2, .int x2)] := hl
  unfold fX2_get at h
  refine lv_aload_n hx hb dX2_get_0 rfl (lv_at hl 0 rfl) ?_
  refine lv_iload_n hx hb dX2_get_1 rfl (lv_at hl 1 rfl) ?_
  refine lv_iload_n hx hb dX2_get_2 rfl (lv_at hl 2 rfl) ?_
  obtain ⟨v3, e3, h⟩ := bd1_some h
  refine x_vi (rest := []) (ws' := (wX2 cI ad nI nS width items sizes)) hc hG (cc_X2_has ad nI nS width items sizes x1 x2 v3 e3) [0, 1, 2] [] [0, 1, 2] rfl rfl rfl 0 rfl rfl lX2_24 ⟨rfl, rfl, by decide, by decide⟩ rfl hl.1 (Nat.le_of_ble_eq_true rfl) rfl dX2_get_3 (fun H locs hG => ?_)
  refine lv_if_eq (tgt := 25) hx hb dX2_get_6 (by decide) (fun c6 => ?_) (fun c6 => ?_)
  · rw [if_pos c6] at h
    refine lv_iconst (v := 0) hx hb dX2_get_25 (by decide) ?_
    cases h
    exact hret _ _ _ _ hG dX2_get_26 rfl
  · rw [if_neg c6] at h
    refine lv_aload_n hx hb dX2_get_9 rfl (lv_at hl 0 rfl) ?_
    refine x_get hc hG 0 rfl iX2 0 lX2_7 rfl dX2_get_10 ?_
    refine lv_iload_n hx hb dX2_get_13 rfl (lv_at hl 1 rfl) ?_
    refine lv_aload_n hx hb dX2_get_14 rfl (lv_at hl 0 rfl) ?_
    refine x_get hc hG 0 rfl iX2 2 lX2_16 rfl dX2_get_15 ?_
    refine lv_imul hx hb dX2_get_18 ?_
    refine lv_iload_n hx hb dX2_get_19 rfl (lv_at hl 2 rfl) ?_
    refine lv_iadd hx hb dX2_get_20 ?_
    obtain ⟨v21, e21, h⟩ := bd1_some h
    refine x_ald hc hG 1 rfl e21 dX2_get_21 ?_
    refine lv_goto (tgt := 26) hx hb dX2_get_22 (by decide) ?_
    cases h
    exact hret _ _ _ _ hG dX2_get_26 rfl
set_option maxRecDepth 100000 in
set_option maxHeartbeats 4000000 in
theorem cc_X2_sizeOf {l : Launch} {D : va_G} {cI : ClassId} {tL : Nat} (ad : Nat → Nat) (nI : Nat) (nS : Nat) (width : Int32) (items : Nat → Int32) (sizes : Nat → Int32) (x1 : Int32) (r' : Int32) (h : fX2_sizeOf nS sizes x1 = some r') : Ci l D cI tL yX2_sizeOf cX2_sizeOf 2 .int rmX2_sizeOf (wX2 cI ad nI nS width items sizes) [.ref (ad 0), .int x1] r' (wX2 cI ad nI nS width items sizes) := by
  refine Ci_of (own := RX2) (by decide) (Nat.le_of_ble_eq_true rfl) rfl ?_
  intro p e s m below meth c Q A AV hc hret ls hl hG
  obtain ⟨hx, hb, hml, hown, hts, hK, hA, hz⟩ := id hc
  have hl : lv_has ls 2 [(0, .ref (ad 0)), (1, .int x1)] := hl
  unfold fX2_sizeOf at h
  refine lv_iload_n hx hb dX2_sizeOf_0 rfl (lv_at hl 1 rfl) ?_
  refine lv_if_lt (tgt := 22) hx hb dX2_sizeOf_1 (by decide) (fun c1 => ?_) (fun c1 => ?_)
  · rw [if_pos c1] at h
    refine lv_iconst (v := (-1)) hx hb dX2_sizeOf_22 (by decide) ?_
    cases h
    exact hret _ _ _ _ hG dX2_sizeOf_23 rfl
  · rw [if_neg c1] at h
    refine lv_iload_n hx hb dX2_sizeOf_4 rfl (lv_at hl 1 rfl) ?_
    refine lv_aload_n hx hb dX2_sizeOf_5 rfl (lv_at hl 0 rfl) ?_
    refine x_get hc hG 0 rfl iX2 1 lX2_13 rfl dX2_sizeOf_6 ?_
    refine x_alen hc hG 2 rfl dX2_sizeOf_9 ?_
    refine lv_icmp_ge (tgt := 22) hx hb dX2_sizeOf_10 (by decide) (fun c10 => ?_) (fun c10 => ?_)
    · rw [if_pos c10] at h
      refine lv_iconst (v := (-1)) hx hb dX2_sizeOf_22 (by decide) ?_
      cases h
      exact hret _ _ _ _ hG dX2_sizeOf_23 rfl
    · rw [if_neg c10] at h
      refine lv_aload_n hx hb dX2_sizeOf_13 rfl (lv_at hl 0 rfl) ?_
      refine x_get hc hG 0 rfl iX2 1 lX2_13 rfl dX2_sizeOf_14 ?_
      refine lv_iload_n hx hb dX2_sizeOf_17 rfl (lv_at hl 1 rfl) ?_
      obtain ⟨v18, e18, h⟩ := bd1_some h
      refine x_ald hc hG 2 rfl e18 dX2_sizeOf_18 ?_
      refine lv_goto (tgt := 23) hx hb dX2_sizeOf_19 (by decide) ?_
      cases h
      exact hret _ _ _ _ hG dX2_sizeOf_23 rfl
set_option maxRecDepth 100000 in
set_option maxHeartbeats 4000000 in
theorem cc_X2_isMissing {l : Launch} {D : va_G} {cI : ClassId} {tL : Nat} (ad : Nat → Nat) (nI : Nat) (nS : Nat) (width : Int32) (items : Nat → Int32) (sizes : Nat → Int32) (x1 : Int32) (r' : Int32) (h : fX2_isMissing nS sizes x1 = some r') : Ci l D cI tL yX2_isMissing cX2_isMissing 2 .boolean rmX2_isMissing (wX2 cI ad nI nS width items sizes) [.ref (ad 0), .int x1] r' (wX2 cI ad nI nS width items sizes) := by
  refine Ci_of (own := RX2) (by decide) (Nat.le_of_ble_eq_true rfl) rfl ?_
  intro p e s m below meth c Q A AV hc hret ls hl hG
  obtain ⟨hx, hb, hml, hown, hts, hK, hA, hz⟩ := id hc
  have hl : lv_has ls 2 [(0, .ref (ad 0)), (1, .int x1)] := hl
  unfold fX2_isMissing at h
  refine lv_aload_n hx hb dX2_isMissing_0 rfl (lv_at hl 0 rfl) ?_
  refine lv_iload_n hx hb dX2_isMissing_1 rfl (lv_at hl 1 rfl) ?_
  obtain ⟨v2, e2, h⟩ := bd1_some h
  refine x_vi (rest := []) (ws' := (wX2 cI ad nI nS width items sizes)) hc hG (cc_X2_sizeOf ad nI nS width items sizes x1 v2 e2) [0, 1, 2] [] [0, 1, 2] rfl rfl rfl 0 rfl rfl lX2_20 ⟨rfl, rfl, by decide, by decide⟩ rfl hl.1 (Nat.le_of_ble_eq_true rfl) rfl dX2_isMissing_2 (fun H locs hG => ?_)
  refine lv_iconst (v := (-1)) hx hb dX2_isMissing_5 (by decide) ?_
  refine lv_icmp_ne (tgt := 13) hx hb dX2_isMissing_6 (by decide) (fun c6 => ?_) (fun c6 => ?_)
  · rw [if_neg c6] at h
    refine lv_iconst (v := 0) hx hb dX2_isMissing_13 (by decide) ?_
    cases h
    exact hret _ _ _ _ hG dX2_isMissing_14 rfl
  · rw [if_pos c6] at h
    refine lv_iconst (v := 1) hx hb dX2_isMissing_9 (by decide) ?_
    refine lv_goto (tgt := 14) hx hb dX2_isMissing_10 (by decide) ?_
    cases h
    exact hret _ _ _ _ hG dX2_isMissing_14 rfl
set_option maxRecDepth 100000 in
set_option maxHeartbeats 4000000 in
theorem cc_X2_hasRun {l : Launch} {D : va_G} {cI : ClassId} {tL : Nat} (ad : Nat → Nat) (nI : Nat) (nS : Nat) (width : Int32) (items : Nat → Int32) (sizes : Nat → Int32) (x1 : Int32) (x2 : Int32) (x3 : Int32) (r' : Int32) (h : fX2_hasRun nS sizes x1 x2 x3 = some r') : Ci l D cI tL yX2_hasRun cX2_hasRun 4 .boolean rmX2_hasRun (wX2 cI ad nI nS width items sizes) [.ref (ad 0), .int x1, .int x2, .int x3] r' (wX2 cI ad nI nS width items sizes) := by
  refine Ci_of (own := RX2) (by decide) (Nat.le_of_ble_eq_true rfl) rfl ?_
  intro p e s m below meth c Q A AV hc hret ls hl hG
  obtain ⟨hx, hb, hml, hown, hts, hK, hA, hz⟩ := id hc
  have hl : lv_has ls 4 [(0, .ref (ad 0)), (1, .int x1), (2, .int x2), (3, .int x3)] := hl
  unfold fX2_hasRun at h
  refine lv_iload_n hx hb dX2_hasRun_0 rfl (lv_at hl 3 rfl) ?_
  refine lv_if_lt (tgt := 23) hx hb dX2_hasRun_1 (by decide) (fun c1 => ?_) (fun c1 => ?_)
  · rw [if_pos c1] at h
    refine lv_iconst (v := 0) hx hb dX2_hasRun_23 (by decide) ?_
    cases h
    exact hret _ _ _ _ hG dX2_hasRun_24 rfl
  · rw [if_neg c1] at h
    refine lv_iload_n hx hb dX2_hasRun_4 rfl (lv_at hl 2 rfl) ?_
    refine lv_if_lt (tgt := 23) hx hb dX2_hasRun_5 (by decide) (fun c5 => ?_) (fun c5 => ?_)
    · rw [if_pos c5] at h
      refine lv_iconst (v := 0) hx hb dX2_hasRun_23 (by decide) ?_
      cases h
      exact hret _ _ _ _ hG dX2_hasRun_24 rfl
    · rw [if_neg c5] at h
      refine lv_iload_n hx hb dX2_hasRun_8 rfl (lv_at hl 2 rfl) ?_
      refine lv_aload_n hx hb dX2_hasRun_9 rfl (lv_at hl 0 rfl) ?_
      refine lv_iload_n hx hb dX2_hasRun_10 rfl (lv_at hl 1 rfl) ?_
      obtain ⟨v11, e11, h⟩ := bd1_some h
      refine x_vi (rest := [.int x2]) (ws' := (wX2 cI ad nI nS width items sizes)) hc hG (cc_X2_sizeOf ad nI nS width items sizes x1 v11 e11) [0, 1, 2] [] [0, 1, 2] rfl rfl rfl 0 rfl rfl lX2_20 ⟨rfl, rfl, by decide, by decide⟩ rfl hl.1 (Nat.le_of_ble_eq_true rfl) rfl dX2_hasRun_11 (fun H locs hG => ?_)
      refine lv_iload_n hx hb dX2_hasRun_14 rfl (lv_at hl 3 rfl) ?_
      refine lv_isub hx hb dX2_hasRun_15 ?_
      refine lv_icmp_gt (tgt := 23) hx hb dX2_hasRun_16 (by decide) (fun c16 => ?_) (fun c16 => ?_)
      · rw [if_pos c16] at h
        refine lv_iconst (v := 0) hx hb dX2_hasRun_23 (by decide) ?_
        cases h
        exact hret _ _ _ _ hG dX2_hasRun_24 rfl
      · rw [if_neg c16] at h
        refine lv_iconst (v := 1) hx hb dX2_hasRun_19 (by decide) ?_
        refine lv_goto (tgt := 24) hx hb dX2_hasRun_20 (by decide) ?_
        cases h
        exact hret _ _ _ _ hG dX2_hasRun_24 rfl
set_option maxRecDepth 100000 in
set_option maxHeartbeats 4000000 in
theorem cc_X2_set {l : Launch} {D : va_G} {cI : ClassId} {tL : Nat} (ad : Nat → Nat) (nI : Nat) (nS : Nat) (width : Int32) (items : Nat → Int32) (sizes : Nat → Int32) (x1 : Int32) (x2 : Int32) (x3 : Int32) (items' : Nat → Int32) (h : fX2_set nI nS width items sizes x1 x2 x3 = some items') : Cv l D cI tL yX2_set cX2_set 4 rmX2_set (wX2 cI ad nI nS width items sizes) [.ref (ad 0), .int x1, .int x2, .int x3] (wX2 cI ad nI nS width items' sizes) := by
  refine Cv_of (own := RX2) (by decide) (Nat.le_of_ble_eq_true rfl) rfl ?_
  intro p e s m below meth c Q A AV hc hret ls hl hG
  obtain ⟨hx, hb, hml, hown, hts, hK, hA, hz⟩ := id hc
  have hl : lv_has ls 4 [(0, .ref (ad 0)), (1, .int x1), (2, .int x2), (3, .int x3)] := hl
  unfold fX2_set at h
  refine lv_aload_n hx hb dX2_set_0 rfl (lv_at hl 0 rfl) ?_
  refine lv_iload_n hx hb dX2_set_1 rfl (lv_at hl 1 rfl) ?_
  refine lv_iload_n hx hb dX2_set_2 rfl (lv_at hl 2 rfl) ?_
  obtain ⟨v3, e3, h⟩ := bd1_some h
  refine x_vi (rest := []) (ws' := (wX2 cI ad nI nS width items sizes)) hc hG (cc_X2_has ad nI nS width items sizes x1 x2 v3 e3) [0, 1, 2] [] [0, 1, 2] rfl rfl rfl 0 rfl rfl lX2_24 ⟨rfl, rfl, by decide, by decide⟩ rfl hl.1 (Nat.le_of_ble_eq_true rfl) rfl dX2_set_3 (fun H locs hG => ?_)
  refine lv_if_eq (tgt := 23) hx hb dX2_set_6 (by decide) (fun c6 => ?_) (fun c6 => ?_)
  · rw [if_pos c6] at h
    cases h
    exact hret _ _ _ _ hG dX2_set_23
  · rw [if_neg c6] at h
    refine lv_aload_n hx hb dX2_set_9 rfl (lv_at hl 0 rfl) ?_
    refine x_get hc hG 0 rfl iX2 0 lX2_7 rfl dX2_set_10 ?_
    refine lv_iload_n hx hb dX2_set_13 rfl (lv_at hl 1 rfl) ?_
    refine lv_aload_n hx hb dX2_set_14 rfl (lv_at hl 0 rfl) ?_
    refine x_get hc hG 0 rfl iX2 2 lX2_16 rfl dX2_set_15 ?_
    refine lv_imul hx hb dX2_set_18 ?_
    refine lv_iload_n hx hb dX2_set_19 rfl (lv_at hl 2 rfl) ?_
    refine lv_iadd hx hb dX2_set_20 ?_
    refine lv_iload_n hx hb dX2_set_21 rfl (lv_at hl 3 rfl) ?_
    obtain ⟨items_22, e22, h⟩ := bd1_some h
    refine x_ast (ws' := (wX2 cI ad nI nS width items_22 sizes)) hc hG 1 rfl e22 rfl dX2_set_22 (fun H locs hG => ?_)
    cases h
    exact hret _ _ _ _ hG dX2_set_23
set_option maxRecDepth 100000 in
set_option maxHeartbeats 4000000 in
theorem cc_X2_make {l : Launch} {D : va_G} {cI : ClassId} {tL : Nat} (ad : Nat → Nat) (nI : Nat) (nS : Nat) (width : Int32) (items : Nat → Int32) (sizes : Nat → Int32) (x1 : Int32) (x2 : Int32) (x3 : Int32) (items' : Nat → Int32) (sizes' : Nat → Int32) (h : fX2_make nI nS width items sizes x1 x2 x3 = some (items', sizes')) : Cv l D cI tL yX2_make cX2_make 5 rmX2_make (wX2 cI ad nI nS width items sizes) [.ref (ad 0), .int x1, .int x2, .int x3] (wX2 cI ad nI nS width items' sizes') := by
  refine Cv_of (own := RX2) (by decide) (Nat.le_of_ble_eq_true rfl) rfl ?_
  intro p e s m below meth c Q A AV hc hret ls hl hG
  obtain ⟨hx, hb, hml, hown, hts, hK, hA, hz⟩ := id hc
  have hl : lv_has ls 5 [(0, .ref (ad 0)), (1, .int x1), (2, .int x2), (3, .int x3)] := hl
  have hL_35 : ∀ (x1 : Int32) (x2 : Int32) (x3 : Int32) (sizes : Nat → Int32) (items_o : Nat → Int32), (∀ (ls : Array Slot) (H : Heap) (locs : List Loc), lv_has ls 5 [(0, .ref (ad 0))] → St D A s (wX2 cI ad nI nS width items_o sizes) H locs → W p l e rmX2_make s m AV below meth c H locs 0 0 Q (F0 m 62 ls [])) → ∀ (n : Nat) (items : Nat → Int32) (x4 : Int32), fX2_make_L35 nI width x1 x2 x3 n items x4 = some items_o → ∀ (ls : Array Slot) (H : Heap) (locs : List Loc), lv_has ls 5 [(0, .ref (ad 0)), (1, .int x1), (2, .int x2), (3, .int x3), (4, .int x4)] → St D A s (wX2 cI ad nI nS width items sizes) H locs → W p l e rmX2_make s m AV below meth c H locs 0 0 Q (F0 m 35 ls []) := by
    intro x1 x2 x3 sizes items_o KE n
    induction n with
    | zero =>
      intro items x4 h
      exact nomatch (show none = some _ from h)
    | succ n ih =>
      intro items x4 h ls H locs hl hG
      have h : fX2_make_B35 nI width x1 x2 x3 (fX2_make_L35 nI width x1 x2 x3 n) items x4 = some items_o := h
      unfold fX2_make_B35 at h
      refine lv_iload hx hb dX2_make_35 (lv_at hl 4 rfl) ?_
      refine lv_iload_n hx hb dX2_make_37 rfl (lv_at hl 2 rfl) ?_
      refine lv_icmp_ge (tgt := 62) hx hb dX2_make_38 (by decide) (fun c38 => ?_) (fun c38 => ?_)
      · rw [if_pos c38] at h
        cases h
        exact KE _ _ _ (lv_sub hl [0] rfl) hG
      · rw [if_neg c38] at h
        refine lv_aload_n hx hb dX2_make_41 rfl (lv_at hl 0 rfl) ?_
        refine x_get hc hG 0 rfl iX2 0 lX2_7 rfl dX2_make_42 ?_
        refine lv_iload_n hx hb dX2_make_45 rfl (lv_at hl 1 rfl) ?_
        refine lv_aload_n hx hb dX2_make_46 rfl (lv_at hl 0 rfl) ?_
        refine x_get hc hG 0 rfl iX2 2 lX2_16 rfl dX2_make_47 ?_
        refine lv_imul hx hb dX2_make_50 ?_
        refine lv_iload hx hb dX2_make_51 (lv_at hl 4 rfl) ?_
        refine lv_iadd hx hb dX2_make_53 ?_
        refine lv_iload_n hx hb dX2_make_54 rfl (lv_at hl 3 rfl) ?_
        obtain ⟨items_55, e55, h⟩ := bd1_some h
        refine x_ast (ws' := (wX2 cI ad nI nS width items_55 sizes)) hc hG 1 rfl e55 rfl dX2_make_55 (fun H locs hG => ?_)
        refine lv_iinc (v := (x4 + 1)) (lv' := [(4, .int (x4 + 1)), (0, .ref (ad 0)), (1, .int x1), (2, .int x2), (3, .int x3)]) hx hb dX2_make_56 hl (k := 4) rfl rfl (by decide) rfl (fun ls hl => ?_)
        refine lv_goto (tgt := 35) hx hb dX2_make_59 (by decide) ?_
        exact ih _ _ h _ _ _ (lv_sub hl [1, 2, 3, 4, 0] rfl) hG
  unfold fX2_make at h
  refine lv_iload_n hx hb dX2_make_0 rfl (lv_at hl 1 rfl) ?_
  refine lv_if_lt (tgt := 62) hx hb dX2_make_1 (by decide) (fun c1 => ?_) (fun c1 => ?_)
  · rw [if_pos c1] at h
    cases h
    exact hret _ _ _ _ hG dX2_make_62
  · rw [if_neg c1] at h
    refine lv_iload_n hx hb dX2_make_4 rfl (lv_at hl 1 rfl) ?_
    refine lv_aload_n hx hb dX2_make_5 rfl (lv_at hl 0 rfl) ?_
    refine x_get hc hG 0 rfl iX2 1 lX2_13 rfl dX2_make_6 ?_
    refine x_alen hc hG 2 rfl dX2_make_9 ?_
    refine lv_icmp_ge (tgt := 62) hx hb dX2_make_10 (by decide) (fun c10 => ?_) (fun c10 => ?_)
    · rw [if_pos c10] at h
      cases h
      exact hret _ _ _ _ hG dX2_make_62
    · rw [if_neg c10] at h
      refine lv_iload_n hx hb dX2_make_13 rfl (lv_at hl 2 rfl) ?_
      refine lv_if_lt (tgt := 62) hx hb dX2_make_14 (by decide) (fun c14 => ?_) (fun c14 => ?_)
      · rw [if_pos c14] at h
        cases h
        exact hret _ _ _ _ hG dX2_make_62
      · rw [if_neg c14] at h
        refine lv_iload_n hx hb dX2_make_17 rfl (lv_at hl 2 rfl) ?_
        refine lv_aload_n hx hb dX2_make_18 rfl (lv_at hl 0 rfl) ?_
        refine x_get hc hG 0 rfl iX2 2 lX2_16 rfl dX2_make_19 ?_
        refine lv_icmp_gt (tgt := 62) hx hb dX2_make_22 (by decide) (fun c22 => ?_) (fun c22 => ?_)
        · rw [if_pos c22] at h
          cases h
          exact hret _ _ _ _ hG dX2_make_62
        · rw [if_neg c22] at h
          refine lv_aload_n hx hb dX2_make_25 rfl (lv_at hl 0 rfl) ?_
          refine x_get hc hG 0 rfl iX2 1 lX2_13 rfl dX2_make_26 ?_
          refine lv_iload_n hx hb dX2_make_29 rfl (lv_at hl 1 rfl) ?_
          refine lv_iload_n hx hb dX2_make_30 rfl (lv_at hl 2 rfl) ?_
          obtain ⟨sizes_31, e31, h⟩ := bd1_some h
          refine x_ast (ws' := (wX2 cI ad nI nS width items sizes_31)) hc hG 2 rfl e31 rfl dX2_make_31 (fun H locs hG => ?_)
          refine lv_iconst (v := 0) hx hb dX2_make_32 (by decide) ?_
          refine lv_istore (lv' := [(4, .int 0), (0, .ref (ad 0)), (1, .int x1), (2, .int x2), (3, .int x3)]) hx hb dX2_make_33 hl (by decide) rfl (fun ls hl => ?_)
          obtain ⟨items_L35, e35, h⟩ := bd1_some h
          refine hL_35 _ _ _ _ _ (fun ls H locs hl hG => ?_) _ _ _ e35 _ _ _ (lv_sub hl [1, 2, 3, 4, 0] rfl) hG
          cases h
          exact hret _ _ _ _ hG dX2_make_62
set_option maxRecDepth 100000 in
set_option maxHeartbeats 4000000 in
theorem cc_X2_append {l : Launch} {D : va_G} {cI : ClassId} {tL : Nat} (ad : Nat → Nat) (nI : Nat) (nS : Nat) (width : Int32) (items : Nat → Int32) (sizes : Nat → Int32) (x1 : Int32) (x2 : Int32) (items' : Nat → Int32) (sizes' : Nat → Int32) (h : fX2_append nI nS width items sizes x1 x2 = some (items', sizes')) : Cv l D cI tL yX2_append cX2_append 4 rmX2_append (wX2 cI ad nI nS width items sizes) [.ref (ad 0), .int x1, .int x2] (wX2 cI ad nI nS width items' sizes') := by
  refine Cv_of (own := RX2) (by decide) (Nat.le_of_ble_eq_true rfl) rfl ?_
  intro p e s m below meth c Q A AV hc hret ls hl hG
  obtain ⟨hx, hb, hml, hown, hts, hK, hA, hz⟩ := id hc
  have hl : lv_has ls 4 [(0, .ref (ad 0)), (1, .int x1), (2, .int x2)] := hl
  unfold fX2_append at h
  refine lv_aload_n hx hb dX2_append_0 rfl (lv_at hl 0 rfl) ?_
  refine lv_iload_n hx hb dX2_append_1 rfl (lv_at hl 1 rfl) ?_
  obtain ⟨v2, e2, h⟩ := bd1_some h
  refine x_vi (rest := []) (ws' := (wX2 cI ad nI nS width items sizes)) hc hG (cc_X2_sizeOf ad nI nS width items sizes x1 v2 e2) [0, 1, 2] [] [0, 1, 2] rfl rfl rfl 0 rfl rfl lX2_20 ⟨rfl, rfl, by decide, by decide⟩ rfl hl.1 (Nat.le_of_ble_eq_true rfl) rfl dX2_append_2 (fun H locs hG => ?_)
  refine lv_istore_n (lv' := [(3, .int v2), (0, .ref (ad 0)), (1, .int x1), (2, .int x2)]) hx hb dX2_append_5 rfl hl (by decide) rfl (fun ls hl => ?_)
  refine lv_iload_n hx hb dX2_append_6 rfl (lv_at hl 0 rfl) ?_
  refine lv_if_lt (tgt := 41) hx hb dX2_append_7 (by decide) (fun c7 => ?_) (fun c7 => ?_)
  · rw [if_pos c7] at h
    cases h
    exact hret _ _ _ _ hG dX2_append_41
  · rw [if_neg c7] at h
    refine lv_iload_n hx hb dX2_append_10 rfl (lv_at hl 0 rfl) ?_
    refine lv_aload_n hx hb dX2_append_11 rfl (lv_at hl 1 rfl) ?_
    refine x_get hc hG 0 rfl iX2 2 lX2_16 rfl dX2_append_12 ?_
    refine lv_icmp_ge (tgt := 41) hx hb dX2_append_15 (by decide) (fun c15 => ?_) (fun c15 => ?_)
    · rw [if_pos c15] at h
      cases h
      exact hret _ _ _ _ hG dX2_append_41
    · rw [if_neg c15] at h
      refine lv_aload_n hx hb dX2_append_18 rfl (lv_at hl 1 rfl) ?_
      refine x_get hc hG 0 rfl iX2 1 lX2_13 rfl dX2_append_19 ?_
      refine lv_iload_n hx hb dX2_append_22 rfl (lv_at hl 2 rfl) ?_
      refine lv_iload_n hx hb dX2_append_23 rfl (lv_at hl 0 rfl) ?_
      refine lv_iconst (v := 1) hx hb dX2_append_24 (by decide) ?_
      refine lv_iadd hx hb dX2_append_25 ?_
      obtain ⟨sizes_26, e26, h⟩ := bd1_some h
      refine x_ast (ws' := (wX2 cI ad nI nS width items sizes_26)) hc hG 2 rfl e26 rfl dX2_append_26 (fun H locs hG => ?_)
      refine lv_aload_n hx hb dX2_append_27 rfl (lv_at hl 1 rfl) ?_
      refine x_get hc hG 0 rfl iX2 0 lX2_7 rfl dX2_append_28 ?_
      refine lv_iload_n hx hb dX2_append_31 rfl (lv_at hl 2 rfl) ?_
      refine lv_aload_n hx hb dX2_append_32 rfl (lv_at hl 1 rfl) ?_
      refine x_get hc hG 0 rfl iX2 2 lX2_16 rfl dX2_append_33 ?_
      refine lv_imul hx hb dX2_append_36 ?_
      refine lv_iload_n hx hb dX2_append_37 rfl (lv_at hl 0 rfl) ?_
      refine lv_iadd hx hb dX2_append_38 ?_
      refine lv_iload_n hx hb dX2_append_39 rfl (lv_at hl 3 rfl) ?_
      obtain ⟨items_40, e40, h⟩ := bd1_some h
      refine x_ast (ws' := (wX2 cI ad nI nS width items_40 sizes_26)) hc hG 1 rfl e40 rfl dX2_append_40 (fun H locs hG => ?_)
      cases h
      exact hret _ _ _ _ hG dX2_append_41
set_option maxRecDepth 100000 in
set_option maxHeartbeats 4000000 in
theorem cc_X2_cut {l : Launch} {D : va_G} {cI : ClassId} {tL : Nat} (ad : Nat → Nat) (nI : Nat) (nS : Nat) (width : Int32) (items : Nat → Int32) (sizes : Nat → Int32) (x1 : Int32) (x2 : Int32) (sizes' : Nat → Int32) (h : fX2_cut nS sizes x1 x2 = some sizes') : Cv l D cI tL yX2_cut cX2_cut 3 rmX2_cut (wX2 cI ad nI nS width items sizes) [.ref (ad 0), .int x1, .int x2] (wX2 cI ad nI nS width items sizes') := by
  refine Cv_of (own := RX2) (by decide) (Nat.le_of_ble_eq_true rfl) rfl ?_
  intro p e s m below meth c Q A AV hc hret ls hl hG
  obtain ⟨hx, hb, hml, hown, hts, hK, hA, hz⟩ := id hc
  have hl : lv_has ls 3 [(0, .ref (ad 0)), (1, .int x1), (2, .int x2)] := hl
  unfold fX2_cut at h
  refine lv_iload_n hx hb dX2_cut_0 rfl (lv_at hl 2 rfl) ?_
  refine lv_if_lt (tgt := 20) hx hb dX2_cut_1 (by decide) (fun c1 => ?_) (fun c1 => ?_)
  · rw [if_pos c1] at h
    cases h
    exact hret _ _ _ _ hG dX2_cut_20
  · rw [if_neg c1] at h
    refine lv_iload_n hx hb dX2_cut_4 rfl (lv_at hl 2 rfl) ?_
    refine lv_aload_n hx hb dX2_cut_5 rfl (lv_at hl 0 rfl) ?_
    refine lv_iload_n hx hb dX2_cut_6 rfl (lv_at hl 1 rfl) ?_
    obtain ⟨v7, e7, h⟩ := bd1_some h
    refine x_vi (rest := [.int x2]) (ws' := (wX2 cI ad nI nS width items sizes)) hc hG (cc_X2_sizeOf ad nI nS width items sizes x1 v7 e7) [0, 1, 2] [] [0, 1, 2] rfl rfl rfl 0 rfl rfl lX2_20 ⟨rfl, rfl, by decide, by decide⟩ rfl hl.1 (Nat.le_of_ble_eq_true rfl) rfl dX2_cut_7 (fun H locs hG => ?_)
    refine lv_icmp_ge (tgt := 20) hx hb dX2_cut_10 (by decide) (fun c10 => ?_) (fun c10 => ?_)
    · rw [if_pos c10] at h
      cases h
      exact hret _ _ _ _ hG dX2_cut_20
    · rw [if_neg c10] at h
      refine lv_aload_n hx hb dX2_cut_13 rfl (lv_at hl 0 rfl) ?_
      refine x_get hc hG 0 rfl iX2 1 lX2_13 rfl dX2_cut_14 ?_
      refine lv_iload_n hx hb dX2_cut_17 rfl (lv_at hl 1 rfl) ?_
      refine lv_iload_n hx hb dX2_cut_18 rfl (lv_at hl 2 rfl) ?_
      obtain ⟨sizes_19, e19, h⟩ := bd1_some h
      refine x_ast (ws' := (wX2 cI ad nI nS width items sizes_19)) hc hG 2 rfl e19 rfl dX2_cut_19 (fun H locs hG => ?_)
      cases h
      exact hret _ _ _ _ hG dX2_cut_20
set_option maxRecDepth 100000 in
set_option maxHeartbeats 4000000 in
theorem cc_X2_remove {l : Launch} {D : va_G} {cI : ClassId} {tL : Nat} (ad : Nat → Nat) (nI : Nat) (nS : Nat) (width : Int32) (items : Nat → Int32) (sizes : Nat → Int32) (x1 : Int32) (sizes' : Nat → Int32) (h : fX2_remove nS sizes x1 = some sizes') : Cv l D cI tL yX2_remove cX2_remove 2 rmX2_remove (wX2 cI ad nI nS width items sizes) [.ref (ad 0), .int x1] (wX2 cI ad nI nS width items sizes') := by
  refine Cv_of (own := RX2) (by decide) (Nat.le_of_ble_eq_true rfl) rfl ?_
  intro p e s m below meth c Q A AV hc hret ls hl hG
  obtain ⟨hx, hb, hml, hown, hts, hK, hA, hz⟩ := id hc
  have hl : lv_has ls 2 [(0, .ref (ad 0)), (1, .int x1)] := hl
  unfold fX2_remove at h
  refine lv_iload_n hx hb dX2_remove_0 rfl (lv_at hl 1 rfl) ?_
  refine lv_if_lt (tgt := 20) hx hb dX2_remove_1 (by decide) (fun c1 => ?_) (fun c1 => ?_)
  · rw [if_pos c1] at h
    cases h
    exact hret _ _ _ _ hG dX2_remove_20
  · rw [if_neg c1] at h
    refine lv_iload_n hx hb dX2_remove_4 rfl (lv_at hl 1 rfl) ?_
    refine lv_aload_n hx hb dX2_remove_5 rfl (lv_at hl 0 rfl) ?_
    refine x_get hc hG 0 rfl iX2 1 lX2_13 rfl dX2_remove_6 ?_
    refine x_alen hc hG 2 rfl dX2_remove_9 ?_
    refine lv_icmp_ge (tgt := 20) hx hb dX2_remove_10 (by decide) (fun c10 => ?_) (fun c10 => ?_)
    · rw [if_pos c10] at h
      cases h
      exact hret _ _ _ _ hG dX2_remove_20
    · rw [if_neg c10] at h
      refine lv_aload_n hx hb dX2_remove_13 rfl (lv_at hl 0 rfl) ?_
      refine x_get hc hG 0 rfl iX2 1 lX2_13 rfl dX2_remove_14 ?_
      refine lv_iload_n hx hb dX2_remove_17 rfl (lv_at hl 1 rfl) ?_
      refine lv_iconst (v := (-1)) hx hb dX2_remove_18 (by decide) ?_
      obtain ⟨sizes_19, e19, h⟩ := bd1_some h
      refine x_ast (ws' := (wX2 cI ad nI nS width items sizes_19)) hc hG 2 rfl e19 rfl dX2_remove_19 (fun H locs hG => ?_)
      cases h
      exact hret _ _ _ _ hG dX2_remove_20
set_option maxRecDepth 100000 in
set_option maxHeartbeats 4000000 in
theorem cc_X2_copyRun {l : Launch} {D : va_G} {cI : ClassId} {tL : Nat} (ad : Nat → Nat) (nI : Nat) (nS : Nat) (width : Int32) (items : Nat → Int32) (sizes : Nat → Int32) (x1 : Int32) (x2 : Int32) (x3 : Int32) (x4 : Int32) (x5 : Int32) (items' : Nat → Int32) (h : fX2_copyRun nI nS width items sizes x1 x2 x3 x4 x5 = some items') : Cv l D cI tL yX2_copyRun cX2_copyRun 6 rmX2_copyRun (wX2 cI ad nI nS width items sizes) [.ref (ad 0), .int x1, .int x2, .int x3, .int x4, .int x5] (wX2 cI ad nI nS width items' sizes) := by
  refine Cv_of (own := RX2) (by decide) (Nat.le_of_ble_eq_true rfl) rfl ?_
  intro p e s m below meth c Q A AV hc hret ls hl hG
  obtain ⟨hx, hb, hml, hown, hts, hK, hA, hz⟩ := id hc
  have hl : lv_has ls 6 [(0, .ref (ad 0)), (1, .int x1), (2, .int x2), (3, .int x3), (4, .int x4), (5, .int x5)] := hl
  unfold fX2_copyRun at h
  refine lv_aload_n hx hb dX2_copyRun_0 rfl (lv_at hl 0 rfl) ?_
  refine lv_iload_n hx hb dX2_copyRun_1 rfl (lv_at hl 1 rfl) ?_
  refine lv_iload_n hx hb dX2_copyRun_2 rfl (lv_at hl 2 rfl) ?_
  refine lv_iload hx hb dX2_copyRun_3 (lv_at hl 5 rfl) ?_
  obtain ⟨v5, e5, h⟩ := bd1_some h
  refine x_vi (rest := []) (ws' := (wX2 cI ad nI nS width items sizes)) hc hG (cc_X2_hasRun ad nI nS width items sizes x1 x2 x5 v5 e5) [0, 1, 2] [] [0, 1, 2] rfl rfl rfl 0 rfl rfl lX2_28 ⟨rfl, rfl, by decide, by decide⟩ rfl hl.1 (Nat.le_of_ble_eq_true rfl) rfl dX2_copyRun_5 (fun H locs hG => ?_)
  refine lv_if_eq (tgt := 53) hx hb dX2_copyRun_8 (by decide) (fun c8 => ?_) (fun c8 => ?_)
  · rw [if_pos c8] at h
    cases h
    exact hret _ _ _ _ hG dX2_copyRun_53
  · rw [if_neg c8] at h
    refine lv_aload_n hx hb dX2_copyRun_11 rfl (lv_at hl 0 rfl) ?_
    refine lv_iload_n hx hb dX2_copyRun_12 rfl (lv_at hl 3 rfl) ?_
    refine lv_iload hx hb dX2_copyRun_13 (lv_at hl 4 rfl) ?_
    refine lv_iload hx hb dX2_copyRun_15 (lv_at hl 5 rfl) ?_
    obtain ⟨v17, e17, h⟩ := bd1_some h
    refine x_vi (rest := []) (ws' := (wX2 cI ad nI nS width items sizes)) hc hG (cc_X2_hasRun ad nI nS width items sizes x3 x4 x5 v17 e17) [0, 1, 2] [] [0, 1, 2] rfl rfl rfl 0 rfl rfl lX2_28 ⟨rfl, rfl, by decide, by decide⟩ rfl hl.1 (Nat.le_of_ble_eq_true rfl) rfl dX2_copyRun_17 (fun H locs hG => ?_)
    refine lv_if_eq (tgt := 53) hx hb dX2_copyRun_20 (by decide) (fun c20 => ?_) (fun c20 => ?_)
    · rw [if_pos c20] at h
      cases h
      exact hret _ _ _ _ hG dX2_copyRun_53
    · rw [if_neg c20] at h
      refine lv_aload_n hx hb dX2_copyRun_23 rfl (lv_at hl 0 rfl) ?_
      refine x_get hc hG 0 rfl iX2 0 lX2_7 rfl dX2_copyRun_24 ?_
      refine lv_iload_n hx hb dX2_copyRun_27 rfl (lv_at hl 1 rfl) ?_
      refine lv_aload_n hx hb dX2_copyRun_28 rfl (lv_at hl 0 rfl) ?_
      refine x_get hc hG 0 rfl iX2 2 lX2_16 rfl dX2_copyRun_29 ?_
      refine lv_imul hx hb dX2_copyRun_32 ?_
      refine lv_iload_n hx hb dX2_copyRun_33 rfl (lv_at hl 2 rfl) ?_
      refine lv_iadd hx hb dX2_copyRun_34 ?_
      refine lv_aload_n hx hb dX2_copyRun_35 rfl (lv_at hl 0 rfl) ?_
      refine x_get hc hG 0 rfl iX2 0 lX2_7 rfl dX2_copyRun_36 ?_
      refine lv_iload_n hx hb dX2_copyRun_39 rfl (lv_at hl 3 rfl) ?_
      refine lv_aload_n hx hb dX2_copyRun_40 rfl (lv_at hl 0 rfl) ?_
      refine x_get hc hG 0 rfl iX2 2 lX2_16 rfl dX2_copyRun_41 ?_
      refine lv_imul hx hb dX2_copyRun_44 ?_
      refine lv_iload hx hb dX2_copyRun_45 (lv_at hl 4 rfl) ?_
      refine lv_iadd hx hb dX2_copyRun_47 ?_
      refine lv_iload hx hb dX2_copyRun_48 (lv_at hl 5 rfl) ?_
      obtain ⟨items_50, e50, h⟩ := bd1_some h
      refine x_acp (ws' := (wX2 cI ad nI nS width items_50 sizes)) hc hG 1 rfl e50 rfl hl.1 lX2_32 (by decide) (Nat.le_of_ble_eq_true rfl) dX2_copyRun_50 (fun H locs hG => ?_)
      cases h
      exact hret _ _ _ _ hG dX2_copyRun_53
set_option maxRecDepth 100000 in
set_option maxHeartbeats 4000000 in
theorem cc_X2_copyRow {l : Launch} {D : va_G} {cI : ClassId} {tL : Nat} (ad : Nat → Nat) (nI : Nat) (nS : Nat) (width : Int32) (items : Nat → Int32) (sizes : Nat → Int32) (x1 : Int32) (x2 : Int32) (items' : Nat → Int32) (sizes' : Nat → Int32) (h : fX2_copyRow nI nS width items sizes x1 x2 = some (items', sizes')) : Cv l D cI tL yX2_copyRow cX2_copyRow 4 rmX2_copyRow (wX2 cI ad nI nS width items sizes) [.ref (ad 0), .int x1, .int x2] (wX2 cI ad nI nS width items' sizes') := by
  refine Cv_of (own := RX2) (by decide) (Nat.le_of_ble_eq_true rfl) rfl ?_
  intro p e s m below meth c Q A AV hc hret ls hl hG
  obtain ⟨hx, hb, hml, hown, hts, hK, hA, hz⟩ := id hc
  have hl : lv_has ls 4 [(0, .ref (ad 0)), (1, .int x1), (2, .int x2)] := hl
  unfold fX2_copyRow at h
  refine lv_aload_n hx hb dX2_copyRow_0 rfl (lv_at hl 0 rfl) ?_
  refine lv_iload_n hx hb dX2_copyRow_1 rfl (lv_at hl 1 rfl) ?_
  obtain ⟨v2, e2, h⟩ := bd1_some h
  refine x_vi (rest := []) (ws' := (wX2 cI ad nI nS width items sizes)) hc hG (cc_X2_sizeOf ad nI nS width items sizes x1 v2 e2) [0, 1, 2] [] [0, 1, 2] rfl rfl rfl 0 rfl rfl lX2_20 ⟨rfl, rfl, by decide, by decide⟩ rfl hl.1 (Nat.le_of_ble_eq_true rfl) rfl dX2_copyRow_2 (fun H locs hG => ?_)
  refine lv_istore_n (lv' := [(3, .int v2), (0, .ref (ad 0)), (1, .int x1), (2, .int x2)]) hx hb dX2_copyRow_5 rfl hl (by decide) rfl (fun ls hl => ?_)
  refine lv_iload_n hx hb dX2_copyRow_6 rfl (lv_at hl 0 rfl) ?_
  refine lv_if_lt (tgt := 26) hx hb dX2_copyRow_7 (by decide) (fun c7 => ?_) (fun c7 => ?_)
  · rw [if_pos c7] at h
    cases h
    exact hret _ _ _ _ hG dX2_copyRow_26
  · rw [if_neg c7] at h
    refine lv_aload_n hx hb dX2_copyRow_10 rfl (lv_at hl 1 rfl) ?_
    refine lv_iload_n hx hb dX2_copyRow_11 rfl (lv_at hl 3 rfl) ?_
    refine lv_iload_n hx hb dX2_copyRow_12 rfl (lv_at hl 0 rfl) ?_
    refine lv_iconst (v := 0) hx hb dX2_copyRow_13 (by decide) ?_
    obtain ⟨items_14, sizes_14, e14, h⟩ := bd2_some h
    refine x_vv (rest := []) (ws' := (wX2 cI ad nI nS width items_14 sizes_14)) hc hG (cc_X2_make ad nI nS width items sizes x2 v2 0 items_14 sizes_14 e14) [0, 1, 2] [] [0, 1, 2] rfl rfl rfl 0 rfl rfl lX2_38 ⟨rfl, rfl, by decide, by decide⟩ rfl hl.1 (Nat.le_of_ble_eq_true rfl) rfl dX2_copyRow_14 (fun H locs hG => ?_)
    refine lv_aload_n hx hb dX2_copyRow_17 rfl (lv_at hl 1 rfl) ?_
    refine lv_iload_n hx hb dX2_copyRow_18 rfl (lv_at hl 2 rfl) ?_
    refine lv_iconst (v := 0) hx hb dX2_copyRow_19 (by decide) ?_
    refine lv_iload_n hx hb dX2_copyRow_20 rfl (lv_at hl 3 rfl) ?_
    refine lv_iconst (v := 0) hx hb dX2_copyRow_21 (by decide) ?_
    refine lv_iload_n hx hb dX2_copyRow_22 rfl (lv_at hl 0 rfl) ?_
    obtain ⟨items_23, e23, h⟩ := bd1_some h
    refine x_vv (rest := []) (ws' := (wX2 cI ad nI nS width items_23 sizes_14)) hc hG (cc_X2_copyRun ad nI nS width items_14 sizes_14 x1 0 x2 0 v2 items_23 e23) [0, 1, 2] [] [0, 1, 2] rfl rfl rfl 0 rfl rfl lX2_42 ⟨rfl, rfl, by decide, by decide⟩ rfl hl.1 (Nat.le_of_ble_eq_true rfl) rfl dX2_copyRow_23 (fun H locs hG => ?_)
    cases h
    exact hret _ _ _ _ hG dX2_copyRow_26
set_option maxRecDepth 100000 in
set_option maxHeartbeats 4000000 in
theorem cc_X2_amount {l : Launch} {D : va_G} {cI : ClassId} {tL : Nat} (ad : Nat → Nat) (nI : Nat) (nS : Nat) (width : Int32) (items : Nat → Int32) (sizes : Nat → Int32) (r' : Int32) (h : fX2_amount nS sizes = some r') : Ci l D cI tL yX2_amount cX2_amount 3 .int rmX2_amount (wX2 cI ad nI nS width items sizes) [.ref (ad 0)] r' (wX2 cI ad nI nS width items sizes) := by
  refine Ci_of (own := RX2) (by decide) (Nat.le_of_ble_eq_true rfl) rfl ?_
  intro p e s m below meth c Q A AV hc hret ls hl hG
  obtain ⟨hx, hb, hml, hown, hts, hK, hA, hz⟩ := id hc
  have hl : lv_has ls 3 [(0, .ref (ad 0))] := hl
  have hL_4 : ∀  (x1_o : Int32), (∀ (ls : Array Slot) (H : Heap) (locs : List Loc), lv_has ls 3 [(0, .ref (ad 0)), (1, .int x1_o)] → St D A s (wX2 cI ad nI nS width items sizes) H locs → W p l e rmX2_amount s m AV below meth c H locs 0 0 Q (F0 m 32 ls [])) → ∀ (n : Nat) (x1 : Int32) (x2 : Int32), fX2_amount_L4 nS sizes n x1 x2 = some x1_o → ∀ (ls : Array Slot) (H : Heap) (locs : List Loc), lv_has ls 3 [(0, .ref (ad 0)), (1, .int x1), (2, .int x2)] → St D A s (wX2 cI ad nI nS width items sizes) H locs → W p l e rmX2_amount s m AV below meth c H locs 0 0 Q (F0 m 4 ls []) := by
    intro x1_o KE n
    induction n with
    | zero =>
      intro x1 x2 h
      exact nomatch (show none = some _ from h)
    | succ n ih =>
      intro x1 x2 h ls H locs hl hG
      have h : fX2_amount_B4 nS sizes (fX2_amount_L4 nS sizes n) x1 x2 = some x1_o := h
      have hj_26 : ∀ (x1 : Int32) (x2 : Int32) , fX2_amount_j26 (fX2_amount_L4 nS sizes n) nS sizes x1 x2 = some x1_o → ∀ (ls : Array Slot) (H : Heap) (locs : List Loc), lv_has ls 3 [(0, .ref (ad 0)), (1, .int x1), (2, .int x2)] → St D A s (wX2 cI ad nI nS width items sizes) H locs → W p l e rmX2_amount s m AV below meth c H locs 0 0 Q (F0 m 26 ls []) := by
        intro x1 x2 h ls H locs hl hG
        unfold fX2_amount_j26 at h
        refine lv_iinc (v := (x2 + 1)) (lv' := [(2, .int (x2 + 1)), (0, .ref (ad 0)), (1, .int x1)]) hx hb dX2_amount_26 hl (k := 2) rfl rfl (by decide) rfl (fun ls hl => ?_)
        refine lv_goto (tgt := 4) hx hb dX2_amount_29 (by decide) ?_
        exact ih _ _ h _ _ _ (lv_sub hl [1, 2, 0] rfl) hG
      unfold fX2_amount_B4 at h
      refine lv_iload_n hx hb dX2_amount_4 rfl (lv_at hl 2 rfl) ?_
      refine lv_aload_n hx hb dX2_amount_5 rfl (lv_at hl 0 rfl) ?_
      refine x_get hc hG 0 rfl iX2 1 lX2_13 rfl dX2_amount_6 ?_
      refine x_alen hc hG 2 rfl dX2_amount_9 ?_
      refine lv_icmp_ge (tgt := 32) hx hb dX2_amount_10 (by decide) (fun c10 => ?_) (fun c10 => ?_)
      · rw [if_pos c10] at h
        cases h
        exact KE _ _ _ (lv_sub hl [0, 1] rfl) hG
      · rw [if_neg c10] at h
        refine lv_aload_n hx hb dX2_amount_13 rfl (lv_at hl 0 rfl) ?_
        refine x_get hc hG 0 rfl iX2 1 lX2_13 rfl dX2_amount_14 ?_
        refine lv_iload_n hx hb dX2_amount_17 rfl (lv_at hl 2 rfl) ?_
        obtain ⟨v18, e18, h⟩ := bd1_some h
        refine x_ald hc hG 2 rfl e18 dX2_amount_18 ?_
        refine lv_iconst (v := (-1)) hx hb dX2_amount_19 (by decide) ?_
        refine lv_icmp_eq (tgt := 26) hx hb dX2_amount_20 (by decide) (fun c20 => ?_) (fun c20 => ?_)
        · rw [if_pos c20] at h
          exact hj_26 _ _ h _ _ _ (lv_sub hl [0, 1, 2] rfl) hG
        · rw [if_neg c20] at h
          refine lv_iinc (v := (x1 + 1)) (lv' := [(1, .int (x1 + 1)), (0, .ref (ad 0)), (2, .int x2)]) hx hb dX2_amount_23 hl (k := 1) rfl rfl (by decide) rfl (fun ls hl => ?_)
          exact hj_26 _ _ h _ _ _ (lv_sub hl [1, 0, 2] rfl) hG
  unfold fX2_amount at h
  refine lv_iconst (v := 0) hx hb dX2_amount_0 (by decide) ?_
  refine lv_istore_n (lv' := [(1, .int 0), (0, .ref (ad 0))]) hx hb dX2_amount_1 rfl hl (by decide) rfl (fun ls hl => ?_)
  refine lv_iconst (v := 0) hx hb dX2_amount_2 (by decide) ?_
  refine lv_istore_n (lv' := [(2, .int 0), (1, .int 0), (0, .ref (ad 0))]) hx hb dX2_amount_3 rfl hl (by decide) rfl (fun ls hl => ?_)
  obtain ⟨x1_L4, e4, h⟩ := bd1_some h
  refine hL_4 _ (fun ls H locs hl hG => ?_) _ _ _ e4 _ _ _ (lv_sub hl [2, 1, 0] rfl) hG
  refine lv_iload_n hx hb dX2_amount_32 rfl (lv_at hl 1 rfl) ?_
  cases h
  exact hret _ _ _ _ hG dX2_amount_33 rfl
set_option maxRecDepth 100000 in
set_option maxHeartbeats 4000000 in
theorem cc_X2_addTo {l : Launch} {D : va_G} {cI : ClassId} {tL : Nat} (ad : Nat → Nat) (nI : Nat) (nS : Nat) (width : Int32) (items : Nat → Int32) (sizes : Nat → Int32) (x1 : Int64) (r' : Int64) (h : fX2_addTo nI nS width items sizes x1 = some r') : Cl l D cI tL yX2_addTo cX2_addTo 7 rmX2_addTo (wX2 cI ad nI nS width items sizes) [.ref (ad 0), .long x1] r' (wX2 cI ad nI nS width items sizes) := by
  refine Cl_of (own := RX2) (by decide) (Nat.le_of_ble_eq_true rfl) rfl ?_
  intro p e s m below meth c Q A AV hc hret ls hl hG
  obtain ⟨hx, hb, hml, hown, hts, hK, hA, hz⟩ := id hc
  have hl : lv_has ls 7 [(0, .ref (ad 0)), (1, .long x1)] := hl
  have hL_33 : ∀ (x5 : Int32) (x3_o : Int64), (∀ (ls : Array Slot) (H : Heap) (locs : List Loc), lv_has ls 7 [(0, .ref (ad 0)), (3, .long x3_o), (5, .int x5)] → St D A s (wX2 cI ad nI nS width items sizes) H locs → W p l e rmX2_addTo s m AV below meth c H locs 0 0 Q (F0 m 67 ls [])) → ∀ (n : Nat) (x3 : Int64) (x6 : Int32), fX2_addTo_L33 nI nS width items sizes x5 n x3 x6 = some x3_o → ∀ (ls : Array Slot) (H : Heap) (locs : List Loc), lv_has ls 7 [(0, .ref (ad 0)), (3, .long x3), (5, .int x5), (6, .int x6)] → St D A s (wX2 cI ad nI nS width items sizes) H locs → W p l e rmX2_addTo s m AV below meth c H locs 0 0 Q (F0 m 33 ls []) := by
    intro x5 x3_o KE n
    induction n with
    | zero =>
      intro x3 x6 h
      exact nomatch (show none = some _ from h)
    | succ n ih =>
      intro x3 x6 h ls H locs hl hG
      have h : fX2_addTo_B33 nI nS width items sizes x5 (fX2_addTo_L33 nI nS width items sizes x5 n) x3 x6 = some x3_o := h
      unfold fX2_addTo_B33 at h
      refine lv_iload hx hb dX2_addTo_33 (lv_at hl 3 rfl) ?_
      refine lv_aload_n hx hb dX2_addTo_35 rfl (lv_at hl 0 rfl) ?_
      refine x_get hc hG 0 rfl iX2 1 lX2_13 rfl dX2_addTo_36 ?_
      refine lv_iload hx hb dX2_addTo_39 (lv_at hl 2 rfl) ?_
      obtain ⟨v41, e41, h⟩ := bd1_some h
      refine x_ald hc hG 2 rfl e41 dX2_addTo_41 ?_
      refine lv_icmp_ge (tgt := 67) hx hb dX2_addTo_42 (by decide) (fun c42 => ?_) (fun c42 => ?_)
      · rw [if_pos c42] at h
        cases h
        exact KE _ _ _ (lv_sub hl [0, 1, 2] rfl) hG
      · rw [if_neg c42] at h
        refine lv_ldc2 (v := 31) hx hb hown (hts _ kX2_46) dX2_addTo_45 ?_
        refine lv_lload_n hx hb dX2_addTo_48 rfl (lv_at hl 1 rfl) ?_
        refine lv_lmul hx hb dX2_addTo_49 ?_
        refine lv_aload_n hx hb dX2_addTo_50 rfl (lv_at hl 0 rfl) ?_
        refine lv_iload hx hb dX2_addTo_51 (lv_at hl 2 rfl) ?_
        refine lv_iload hx hb dX2_addTo_53 (lv_at hl 3 rfl) ?_
        obtain ⟨v55, e55, h⟩ := bd1_some h
        refine x_vi (rest := [.long (31 * x3)]) (ws' := (wX2 cI ad nI nS width items sizes)) hc hG (cc_X2_get ad nI nS width items sizes x5 x6 v55 e55) [0, 1, 2] [] [0, 1, 2] rfl rfl rfl 0 rfl rfl lX2_48 ⟨rfl, rfl, by decide, by decide⟩ rfl hl.1 (Nat.le_of_ble_eq_true rfl) rfl dX2_addTo_55 (fun H locs hG => ?_)
        refine lv_i2l hx hb dX2_addTo_58 rfl ?_
        refine lv_ladd hx hb dX2_addTo_59 ?_
        refine lv_lstore_n (lv' := [(3, .long ((31 * x3) + (Int32.toInt64 v55))), (0, .ref (ad 0)), (5, .int x5), (6, .int x6)]) hx hb dX2_addTo_60 rfl hl (by decide) rfl (fun ls hl => ?_)
        refine lv_iinc (v := (x6 + 1)) (lv' := [(6, .int (x6 + 1)), (3, .long ((31 * x3) + (Int32.toInt64 v55))), (0, .ref (ad 0)), (5, .int x5)]) hx hb dX2_addTo_61 hl (k := 3) rfl rfl (by decide) rfl (fun ls hl => ?_)
        refine lv_goto (tgt := 33) hx hb dX2_addTo_64 (by decide) ?_
        exact ih _ _ h _ _ _ (lv_sub hl [2, 1, 3, 0] rfl) hG
  have hL_5 : ∀  (x3_o : Int64), (∀ (ls : Array Slot) (H : Heap) (locs : List Loc), lv_has ls 7 [(0, .ref (ad 0)), (3, .long x3_o)] → St D A s (wX2 cI ad nI nS width items sizes) H locs → W p l e rmX2_addTo s m AV below meth c H locs 0 0 Q (F0 m 73 ls [])) → ∀ (n : Nat) (x3 : Int64) (x5 : Int32), fX2_addTo_L5 nI nS width items sizes n x3 x5 = some x3_o → ∀ (ls : Array Slot) (H : Heap) (locs : List Loc), lv_has ls 7 [(0, .ref (ad 0)), (3, .long x3), (5, .int x5)] → St D A s (wX2 cI ad nI nS width items sizes) H locs → W p l e rmX2_addTo s m AV below meth c H locs 0 0 Q (F0 m 5 ls []) := by
    intro x3_o KE n
    induction n with
    | zero =>
      intro x3 x5 h
      exact nomatch (show none = some _ from h)
    | succ n ih =>
      intro x3 x5 h ls H locs hl hG
      have h : fX2_addTo_B5 nI nS width items sizes (fX2_addTo_L5 nI nS width items sizes n) x3 x5 = some x3_o := h
      unfold fX2_addTo_B5 at h
      refine lv_iload hx hb dX2_addTo_5 (lv_at hl 2 rfl) ?_
      refine lv_aload_n hx hb dX2_addTo_7 rfl (lv_at hl 0 rfl) ?_
      refine x_get hc hG 0 rfl iX2 1 lX2_13 rfl dX2_addTo_8 ?_
      refine x_alen hc hG 2 rfl dX2_addTo_11 ?_
      refine lv_icmp_ge (tgt := 73) hx hb dX2_addTo_12 (by decide) (fun c12 => ?_) (fun c12 => ?_)
      · rw [if_pos c12] at h
        cases h
        exact KE _ _ _ (lv_sub hl [0, 1] rfl) hG
      · rw [if_neg c12] at h
        refine lv_ldc2 (v := 31) hx hb hown (hts _ kX2_46) dX2_addTo_15 ?_
        refine lv_lload_n hx hb dX2_addTo_18 rfl (lv_at hl 1 rfl) ?_
        refine lv_lmul hx hb dX2_addTo_19 ?_
        refine lv_aload_n hx hb dX2_addTo_20 rfl (lv_at hl 0 rfl) ?_
        refine x_get hc hG 0 rfl iX2 1 lX2_13 rfl dX2_addTo_21 ?_
        refine lv_iload hx hb dX2_addTo_24 (lv_at hl 2 rfl) ?_
        obtain ⟨v26, e26, h⟩ := bd1_some h
        refine x_ald hc hG 2 rfl e26 dX2_addTo_26 ?_
        refine lv_i2l hx hb dX2_addTo_27 rfl ?_
        refine lv_ladd hx hb dX2_addTo_28 ?_
        refine lv_lstore_n (lv' := [(3, .long ((31 * x3) + (Int32.toInt64 v26))), (0, .ref (ad 0)), (5, .int x5)]) hx hb dX2_addTo_29 rfl hl (by decide) rfl (fun ls hl => ?_)
        refine lv_iconst (v := 0) hx hb dX2_addTo_30 (by decide) ?_
        refine lv_istore (lv' := [(6, .int 0), (3, .long ((31 * x3) + (Int32.toInt64 v26))), (0, .ref (ad 0)), (5, .int x5)]) hx hb dX2_addTo_31 hl (by decide) rfl (fun ls hl => ?_)
        obtain ⟨x3_L33, e33, h⟩ := bd1_some h
        refine hL_33 _ _ (fun ls H locs hl hG => ?_) _ _ _ e33 _ _ _ (lv_sub hl [2, 1, 3, 0] rfl) hG
        refine lv_iinc (v := (x5 + 1)) (lv' := [(5, .int (x5 + 1)), (0, .ref (ad 0)), (3, .long x3_L33)]) hx hb dX2_addTo_67 hl (k := 2) rfl rfl (by decide) rfl (fun ls hl => ?_)
        refine lv_goto (tgt := 5) hx hb dX2_addTo_70 (by decide) ?_
        exact ih _ _ h _ _ _ (lv_sub hl [1, 2, 0] rfl) hG
  unfold fX2_addTo at h
  refine lv_lload_n hx hb dX2_addTo_0 rfl (lv_at hl 1 rfl) ?_
  refine lv_lstore_n (lv' := [(3, .long x1), (0, .ref (ad 0)), (1, .long x1)]) hx hb dX2_addTo_1 rfl hl (by decide) rfl (fun ls hl => ?_)
  refine lv_iconst (v := 0) hx hb dX2_addTo_2 (by decide) ?_
  refine lv_istore (lv' := [(5, .int 0), (3, .long x1), (0, .ref (ad 0)), (1, .long x1)]) hx hb dX2_addTo_3 hl (by decide) rfl (fun ls hl => ?_)
  obtain ⟨x3_L5, e5, h⟩ := bd1_some h
  refine hL_5 _ (fun ls H locs hl hG => ?_) _ _ _ e5 _ _ _ (lv_sub hl [2, 1, 0] rfl) hG
  refine lv_lload_n hx hb dX2_addTo_73 rfl (lv_at hl 1 rfl) ?_
  cases h
  exact hret _ _ _ _ hG dX2_addTo_74
