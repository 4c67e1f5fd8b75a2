/-! ===== printed by wip/whole/gen.py: contracts of PeelReadings$Sets ===== -/
set_option maxRecDepth 100000 in
set_option maxHeartbeats 4000000 in
theorem cc_X1_clear {l : Launch} {D : va_G} {cI : ClassId} {tL : Nat} (ad : Nat → Nat) (count : Int32) (least : Int32) (inAll : Int32) (inSome : Int32) (count' : Int32) (least' : Int32) (inAll' : Int32) (inSome' : Int32) (h : fX1_clear = some (count', least', inAll', inSome')) : Cv l D cI tL yX1_clear cX1_clear 1 rmX1_clear (wX1 cI ad count least inAll inSome) [.ref (ad 0)] (wX1 cI ad count' least' inAll' inSome') := by
  refine Cv_of (own := RX1) (by decide) (Nat.le_of_ble_eq_true rfl) rfl ?_
  intro p e s m below meth c Q A AV hc hret ls hl hG
  obtain ⟨hx, hb, hml, hown, hts, hK, hA, hz⟩ := id hc
  have hl : lv_has ls 1 [(0, .ref (ad 0))] := hl
  unfold fX1_clear at h
  refine lv_aload_n hx hb dX1_clear_0 rfl (lv_at hl 0 rfl) ?_
  refine lv_iconst (v := 0) hx hb dX1_clear_1 (by decide) ?_
  refine x_put (ws' := (wX1 cI ad 0 least inAll inSome)) hc hG 0 rfl iX1 tyX1 tyX1_ok nmX1 0 lX1_9 rfl rfl rfl (Nat.le_of_ble_eq_true rfl) rfl dX1_clear_2 (fun H locs hG => ?_)
  refine lv_aload_n hx hb dX1_clear_5 rfl (lv_at hl 0 rfl) ?_
  refine lv_bipush (v := (-9)) hx hb dX1_clear_6 (by decide) ?_
  refine x_put (ws' := (wX1 cI ad 0 (-9) inAll inSome)) hc hG 0 rfl iX1 tyX1 tyX1_ok nmX1 1 lX1_15 rfl rfl rfl (Nat.le_of_ble_eq_true rfl) rfl dX1_clear_8 (fun H locs hG => ?_)
  refine lv_aload_n hx hb dX1_clear_11 rfl (lv_at hl 0 rfl) ?_
  refine lv_iconst (v := (-1)) hx hb dX1_clear_12 (by decide) ?_
  refine x_put (ws' := (wX1 cI ad 0 (-9) (-1) inSome)) hc hG 0 rfl iX1 tyX1 tyX1_ok nmX1 2 lX1_18 rfl rfl rfl (Nat.le_of_ble_eq_true rfl) rfl dX1_clear_13 (fun H locs hG => ?_)
  refine lv_aload_n hx hb dX1_clear_16 rfl (lv_at hl 0 rfl) ?_
  refine lv_iconst (v := 0) hx hb dX1_clear_17 (by decide) ?_
  refine x_put (ws' := (wX1 cI ad 0 (-9) (-1) 0)) hc hG 0 rfl iX1 tyX1 tyX1_ok nmX1 3 lX1_21 rfl rfl rfl (Nat.le_of_ble_eq_true rfl) rfl dX1_clear_18 (fun H locs hG => ?_)
  cases h
  exact hret _ _ _ _ hG dX1_clear_21
set_option maxRecDepth 100000 in
set_option maxHeartbeats 4000000 in
theorem cc_X1_add {l : Launch} {D : va_G} {cI : ClassId} {tL : Nat} (ad : Nat → Nat) (count : Int32) (least : Int32) (inAll : Int32) (inSome : Int32) (x1 : Int32) (count' : Int32) (least' : Int32) (inAll' : Int32) (inSome' : Int32) (h : fX1_add count least inAll inSome x1 = some (count', least', inAll', inSome')) : Cv l D cI tL yX1_add cX1_add 2 rmX1_add (wX1 cI ad count least inAll inSome) [.ref (ad 0), .int x1] (wX1 cI ad count' least' inAll' inSome') := by
  refine Cv_of (own := RX1) (by decide) (Nat.le_of_ble_eq_true rfl) rfl ?_
  intro p e s m below meth c Q A AV hc hret ls hl hG
  obtain ⟨hx, hb, hml, hown, hts, hK, hA, hz⟩ := id hc
  have hl : lv_has ls 2 [(0, .ref (ad 0)), (1, .int x1)] := hl
  have hj_12 : ∀ (count : Int32) (least : Int32) (inAll : Int32) (inSome : Int32) (x1 : Int32) , fX1_add_j12 count least inAll inSome x1 = some (count', least', inAll', inSome') → ∀ (ls : Array Slot) (H : Heap) (locs : List Loc), lv_has ls 2 [(0, .ref (ad 0)), (1, .int x1)] → St D A s (wX1 cI ad count least inAll inSome) H locs → W p l e rmX1_add s m AV below meth c H locs 0 0 Q (F0 m 12 ls []) := by
    intro count least inAll inSome x1 h ls H locs hl hG
    unfold fX1_add_j12 at h
    refine lv_aload_n hx hb dX1_add_12 rfl (lv_at hl 0 rfl) ?_
    refine lv_dup hx hb dX1_add_13 rfl ?_
    refine x_get hc hG 0 rfl iX1 0 lX1_9 rfl dX1_add_14 ?_
    refine lv_iconst (v := 1) hx hb dX1_add_17 (by decide) ?_
    refine lv_iadd hx hb dX1_add_18 ?_
    refine x_put (ws' := (wX1 cI ad (count + 1) least inAll inSome)) hc hG 0 rfl iX1 tyX1 tyX1_ok nmX1 0 lX1_9 rfl rfl rfl (Nat.le_of_ble_eq_true rfl) rfl dX1_add_19 (fun H locs hG => ?_)
    refine lv_aload_n hx hb dX1_add_22 rfl (lv_at hl 0 rfl) ?_
    refine lv_dup hx hb dX1_add_23 rfl ?_
    refine x_get hc hG 0 rfl iX1 2 lX1_18 rfl dX1_add_24 ?_
    refine lv_iload_n hx hb dX1_add_27 rfl (lv_at hl 1 rfl) ?_
    refine lv_iand hx hb dX1_add_28 ?_
    refine x_put (ws' := (wX1 cI ad (count + 1) least (inAll &&& x1) inSome)) hc hG 0 rfl iX1 tyX1 tyX1_ok nmX1 2 lX1_18 rfl rfl rfl (Nat.le_of_ble_eq_true rfl) rfl dX1_add_29 (fun H locs hG => ?_)
    refine lv_aload_n hx hb dX1_add_32 rfl (lv_at hl 0 rfl) ?_
    refine lv_dup hx hb dX1_add_33 rfl ?_
    refine x_get hc hG 0 rfl iX1 3 lX1_21 rfl dX1_add_34 ?_
    refine lv_iload_n hx hb dX1_add_37 rfl (lv_at hl 1 rfl) ?_
    refine lv_ior hx hb dX1_add_38 ?_
    refine x_put (ws' := (wX1 cI ad (count + 1) least (inAll &&& x1) (inSome ||| x1))) hc hG 0 rfl iX1 tyX1 tyX1_ok nmX1 3 lX1_21 rfl rfl rfl (Nat.le_of_ble_eq_true rfl) rfl dX1_add_39 (fun H locs hG => ?_)
    cases h
    exact hret _ _ _ _ hG dX1_add_42
  unfold fX1_add at h
  refine lv_aload_n hx hb dX1_add_0 rfl (lv_at hl 0 rfl) ?_
  refine x_get hc hG 0 rfl iX1 0 lX1_9 rfl dX1_add_1 ?_
  refine lv_if_ne (tgt := 12) hx hb dX1_add_4 (by decide) (fun c4 => ?_) (fun c4 => ?_)
  · rw [if_neg c4] at h
    exact hj_12 _ _ _ _ _ h _ _ _ (lv_sub hl [0, 1] rfl) hG
  · rw [if_pos c4] at h
    refine lv_aload_n hx hb dX1_add_7 rfl (lv_at hl 0 rfl) ?_
    refine lv_iload_n hx hb dX1_add_8 rfl (lv_at hl 1 rfl) ?_
    refine x_put (ws' := (wX1 cI ad count x1 inAll inSome)) hc hG 0 rfl iX1 tyX1 tyX1_ok nmX1 1 lX1_15 rfl rfl rfl (Nat.le_of_ble_eq_true rfl) rfl dX1_add_9 (fun H locs hG => ?_)
    exact hj_12 _ _ _ _ _ h _ _ _ (lv_sub hl [0, 1] rfl) hG
