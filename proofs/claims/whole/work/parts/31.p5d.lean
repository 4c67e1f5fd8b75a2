set_option maxRecDepth 100000 in
set_option maxHeartbeats 4000000 in
theorem cc_X5_sure {l : Launch} {D : va_G} {cI : ClassId} {tL : Nat} (ad : Nat → Nat) (deeds : Int32) (finding : Int32) (asked : Int32) (upper : Int64) (lower : Int64) (m_at : Int32) (wrong : Int32) (rowSize : Nat → Int32) (rows : Nat → Int32) (textSize : Nat → Int32) (texts : Nat → Int32) (spare : Nat → Int32) (now : Nat → Int32) (draft : Nat → Int32) (tried : Nat → Int32) (past : Nat → Int32) (kept : Nat → Int32) (keptPast : Nat → Int32) (keptDeeds : Nat → Int32) (findings : Nat → Int32) (worth : Nat → Int32) (x1 : Int32) (r' : Int32) (finding' : Int32) (asked' : Int32) (findings' : Nat → Int32) (h : fX5_sure finding asked now findings x1 = some (r', finding', asked', findings')) : Ci l D cI tL yX5_sure cX5_sure 6 .int rmX5_sure (wX5 cI ad deeds finding asked upper lower m_at wrong rowSize rows textSize texts spare now draft tried past kept keptPast keptDeeds findings worth) [.ref (ad 0), .int x1] r' (wX5 cI ad deeds finding' asked' upper lower m_at wrong rowSize rows textSize texts spare now draft tried past kept keptPast keptDeeds findings' worth) := by
  refine Ci_of (own := RX5) (by decide) (Nat.le_of_ble_eq_true rfl) rfl ?_
  intro p e s m below meth c Q A AV hc hret ls hl hG
  obtain ⟨hx, hb, hml, hown, hts, hK, hA, hz⟩ := id hc
  have hl : lv_has ls 6 [(0, .ref (ad 0)), (1, .int x1)] := hl
  have hL_38 : ∀ (x1 : Int32) (finding : Int32) (asked : Int32) (findings : Nat → Int32) (x2_o : Int32) (x3_o : Int32) (x4_o : Int32), (∀ (ls : Array Slot) (H : Heap) (locs : List Loc), lv_has ls 6 [(0, .ref (ad 0)), (2, .int x2_o), (3, .int x3_o), (4, .int x4_o)] → St D A s (wX5 cI ad deeds finding asked upper lower m_at wrong rowSize rows textSize texts spare now draft tried past kept keptPast keptDeeds findings worth) H locs → W p l e rmX5_sure s m AV below meth c H locs 0 0 Q (F0 m 78 ls [])) → ∀ (n : Nat) (x2 : Int32) (x3 : Int32) (x4 : Int32) (x5 : Int32), fX5_sure_L38 now x1 n x2 x3 x4 x5 = some (x2_o, x3_o, x4_o) → ∀ (ls : Array Slot) (H : Heap) (locs : List Loc), lv_has ls 6 [(0, .ref (ad 0)), (1, .int x1), (2, .int x2), (3, .int x3), (4, .int x4), (5, .int x5)] → St D A s (wX5 cI ad deeds finding asked upper lower m_at wrong rowSize rows textSize texts spare now draft tried past kept keptPast keptDeeds findings worth) H locs → W p l e rmX5_sure s m AV below meth c H locs 0 0 Q (F0 m 38 ls []) := by
    intro x1 finding asked findings x2_o x3_o x4_o KE n
    induction n with
    | zero =>
      intro x2 x3 x4 x5 h
      exact nomatch (show none = some _ from h)
    | succ n ih =>
      intro x2 x3 x4 x5 h ls H locs hl hG
      have h : fX5_sure_B38 now x1 (fX5_sure_L38 now x1 n) x2 x3 x4 x5 = some (x2_o, x3_o, x4_o) := h
      have hj_72 : ∀ (x2 : Int32) (x3 : Int32) (x4 : Int32) (x5 : Int32) , fX5_sure_j72 (fX5_sure_L38 now x1 n) now x1 x2 x3 x4 x5 = some (x2_o, x3_o, x4_o) → ∀ (ls : Array Slot) (H : Heap) (locs : List Loc), lv_has ls 6 [(0, .ref (ad 0)), (1, .int x1), (2, .int x2), (3, .int x3), (4, .int x4), (5, .int x5)] → St D A s (wX5 cI ad deeds finding asked upper lower m_at wrong rowSize rows textSize texts spare now draft tried past kept keptPast keptDeeds findings worth) H locs → W p l e rmX5_sure s m AV below meth c H locs 0 0 Q (F0 m 72 ls []) := by
        intro x2 x3 x4 x5 h ls H locs hl hG
        unfold fX5_sure_j72 at h
        refine lv_iinc (v := (x5 + 1)) (lv' := [(5, .int (x5 + 1)), (0, .ref (ad 0)), (1, .int x1), (2, .int x2), (3, .int x3), (4, .int x4)]) hx hb dX5_sure_72 hl (k := 5) rfl rfl (by decide) rfl (fun ls hl => ?_)
        refine lv_goto (tgt := 38) hx hb dX5_sure_75 (by decide) ?_
        exact ih _ _ _ _ h _ _ _ (lv_sub hl [1, 2, 3, 4, 5, 0] rfl) hG
      unfold fX5_sure_B38 at h
      refine lv_iload hx hb dX5_sure_38 (lv_at hl 5 rfl) ?_
      refine lv_aload_n hx hb dX5_sure_40 rfl (lv_at hl 0 rfl) ?_
      refine x_get hc hG 0 rfl iX5 5 lX5_25 rfl dX5_sure_41 ?_
      refine lv_iconst (v := 4) hx hb dX5_sure_44 (by decide) ?_
      obtain ⟨v45, e45, h⟩ := bd1_some h
      refine x_ald hc hG 6 rfl e45 dX5_sure_45 ?_
      refine lv_icmp_gt (tgt := 78) hx hb dX5_sure_46 (by decide) (fun c46 => ?_) (fun c46 => ?_)
      · rw [if_pos c46] at h
        cases h
        exact KE _ _ _ (lv_sub hl [0, 2, 3, 4] rfl) hG
      · rw [if_neg c46] at h
        refine lv_aload_n hx hb dX5_sure_49 rfl (lv_at hl 0 rfl) ?_
        refine lv_iload hx hb dX5_sure_50 (lv_at hl 5 rfl) ?_
        refine lv_iload_n hx hb dX5_sure_52 rfl (lv_at hl 1 rfl) ?_
        obtain ⟨v53, e53, h⟩ := bd1_some h
        refine x_vi (rest := []) (ws' := (wX5 cI ad deeds finding asked upper lower m_at wrong rowSize rows textSize texts spare now draft tried past kept keptPast keptDeeds findings worth)) hc hG (cc_X5_fills ad deeds finding asked upper lower m_at wrong rowSize rows textSize texts spare now draft tried past kept keptPast keptDeeds findings worth x5 x1 v53 e53) [0, 1, 2, 3, 4, 5, 6, 7, 8, 9, 10, 11, 12, 13, 14] [] [0, 1, 2, 3, 4, 5, 6, 7, 8, 9, 10, 11, 12, 13, 14] rfl rfl rfl 0 rfl rfl lX5_212 ⟨rfl, rfl, by decide, by decide⟩ rfl hl.1 (Nat.le_of_ble_eq_true rfl) rfl dX5_sure_53 (fun H locs hG => ?_)
        refine lv_if_eq (tgt := 72) hx hb dX5_sure_56 (by decide) (fun c56 => ?_) (fun c56 => ?_)
        · rw [if_pos c56] at h
          exact hj_72 _ _ _ _ h _ _ _ (lv_sub hl [0, 1, 2, 3, 4, 5] rfl) hG
        · rw [if_neg c56] at h
          refine lv_iload_n hx hb dX5_sure_59 rfl (lv_at hl 2 rfl) ?_
          refine lv_iload hx hb dX5_sure_60 (lv_at hl 5 rfl) ?_
          refine lv_iand hx hb dX5_sure_62 ?_
          refine lv_istore_n (lv' := [(2, .int (x2 &&& x5)), (0, .ref (ad 0)), (1, .int x1), (3, .int x3), (4, .int x4), (5, .int x5)]) hx hb dX5_sure_63 rfl hl (by decide) rfl (fun ls hl => ?_)
          refine lv_iload_n hx hb dX5_sure_64 rfl (lv_at hl 3 rfl) ?_
          refine lv_iload hx hb dX5_sure_65 (lv_at hl 5 rfl) ?_
          refine lv_ior hx hb dX5_sure_67 ?_
          refine lv_istore_n (lv' := [(3, .int (x3 ||| x5)), (2, .int (x2 &&& x5)), (0, .ref (ad 0)), (1, .int x1), (4, .int x4), (5, .int x5)]) hx hb dX5_sure_68 rfl hl (by decide) rfl (fun ls hl => ?_)
          refine lv_iinc (v := (x4 + 1)) (lv' := [(4, .int (x4 + 1)), (3, .int (x3 ||| x5)), (2, .int (x2 &&& x5)), (0, .ref (ad 0)), (1, .int x1), (5, .int x5)]) hx hb dX5_sure_69 hl (k := 4) rfl rfl (by decide) rfl (fun ls hl => ?_)
          exact hj_72 _ _ _ _ h _ _ _ (lv_sub hl [3, 4, 2, 1, 0, 5] rfl) hG
  unfold fX5_sure at h
  refine lv_iload_n hx hb dX5_sure_0 rfl (lv_at hl 1 rfl) ?_
  refine lv_iconst (v := 0) hx hb dX5_sure_1 (by decide) ?_
  refine lv_sipush (v := 255) hx hb dX5_sure_2 (by decide) ?_
  obtain ⟨v5, e5, h⟩ := bd1_some h
  refine x_si0 (rest := []) hc hG (cc_X5_in0 x1 0 255 v5 e5) lX5_63 ⟨rfl, rfl, by decide, by decide⟩ rfl hl.1 (Nat.le_of_ble_eq_true rfl) rfl dX5_sure_5 (fun H locs hG => ?_)
  refine lv_if_ne (tgt := 13) hx hb dX5_sure_8 (by decide) (fun c8 => ?_) (fun c8 => ?_)
  · rw [if_neg c8] at h
    refine lv_aload_n hx hb dX5_sure_13 rfl (lv_at hl 0 rfl) ?_
    obtain ⟨v14, e14, h⟩ := bd1_some h
    refine x_vi (rest := []) (ws' := (wX5 cI ad deeds finding asked upper lower m_at wrong rowSize rows textSize texts spare now draft tried past kept keptPast keptDeeds findings worth)) hc hG (cc_X5_isAny ad deeds finding asked upper lower m_at wrong rowSize rows textSize texts spare now draft tried past kept keptPast keptDeeds findings worth v14 e14) [0, 1, 2, 3, 4, 5, 6, 7, 8, 9, 10, 11, 12, 13, 14] [] [0, 1, 2, 3, 4, 5, 6, 7, 8, 9, 10, 11, 12, 13, 14] rfl rfl rfl 0 rfl rfl lX5_186 ⟨rfl, rfl, by decide, by decide⟩ rfl hl.1 (Nat.le_of_ble_eq_true rfl) rfl dX5_sure_14 (fun H locs hG => ?_)
    refine lv_if_ne (tgt := 23) hx hb dX5_sure_17 (by decide) (fun c17 => ?_) (fun c17 => ?_)
    · rw [if_neg c17] at h
      refine lv_aload_n hx hb dX5_sure_23 rfl (lv_at hl 0 rfl) ?_
      refine x_get hc hG 0 rfl iX5 5 lX5_25 rfl dX5_sure_24 ?_
      refine lv_iconst (v := 4) hx hb dX5_sure_27 (by decide) ?_
      obtain ⟨v28, e28, h⟩ := bd1_some h
      refine x_ald hc hG 6 rfl e28 dX5_sure_28 ?_
      refine lv_istore_n (lv' := [(2, .int v28), (0, .ref (ad 0)), (1, .int x1)]) hx hb dX5_sure_29 rfl hl (by decide) rfl (fun ls hl => ?_)
      refine lv_iconst (v := 0) hx hb dX5_sure_30 (by decide) ?_
      refine lv_istore_n (lv' := [(3, .int 0), (2, .int v28), (0, .ref (ad 0)), (1, .int x1)]) hx hb dX5_sure_31 rfl hl (by decide) rfl (fun ls hl => ?_)
      refine lv_iconst (v := 0) hx hb dX5_sure_32 (by decide) ?_
      refine lv_istore (lv' := [(4, .int 0), (3, .int 0), (2, .int v28), (0, .ref (ad 0)), (1, .int x1)]) hx hb dX5_sure_33 hl (by decide) rfl (fun ls hl => ?_)
      refine lv_iconst (v := 0) hx hb dX5_sure_35 (by decide) ?_
      refine lv_istore (lv' := [(5, .int 0), (4, .int 0), (3, .int 0), (2, .int v28), (0, .ref (ad 0)), (1, .int x1)]) hx hb dX5_sure_36 hl (by decide) rfl (fun ls hl => ?_)
      obtain ⟨x2_L38, x3_L38, x4_L38, e38, h⟩ := bd3_some h
      refine hL_38 _ _ _ _ _ _ _ (fun ls H locs hl hG => ?_) _ _ _ _ _ e38 _ _ _ (lv_sub hl [4, 5, 3, 2, 1, 0] rfl) hG
      refine lv_iload hx hb dX5_sure_78 (lv_at hl 3 rfl) ?_
      refine lv_if_ne (tgt := 89) hx hb dX5_sure_80 (by decide) (fun c80 => ?_) (fun c80 => ?_)
      · rw [if_neg c80] at h
        refine lv_aload_n hx hb dX5_sure_89 rfl (lv_at hl 0 rfl) ?_
        refine lv_aload_n hx hb dX5_sure_90 rfl (lv_at hl 0 rfl) ?_
        refine x_get hc hG 0 rfl iX5 5 lX5_25 rfl dX5_sure_91 ?_
        refine lv_iconst (v := 4) hx hb dX5_sure_94 (by decide) ?_
        obtain ⟨v95, e95, h⟩ := bd1_some h
        refine x_ald hc hG 6 rfl e95 dX5_sure_95 ?_
        refine lv_iload_n hx hb dX5_sure_96 rfl (lv_at hl 2 rfl) ?_
        refine lv_iconst (v := (-1)) hx hb dX5_sure_97 (by decide) ?_
        refine lv_ixor hx hb dX5_sure_98 ?_
        refine lv_iand hx hb dX5_sure_99 ?_
        obtain ⟨v100, asked_100, e100, h⟩ := bd2_some h
        refine x_vi (rest := []) (ws' := (wX5 cI ad deeds finding asked_100 upper lower m_at wrong rowSize rows textSize texts spare now draft tried past kept keptPast keptDeeds findings worth)) hc hG (cc_X5_tells ad deeds finding asked upper lower m_at wrong rowSize rows textSize texts spare now draft tried past kept keptPast keptDeeds findings worth (v95 &&& (x3_L38 ^^^ (-1))) v100 asked_100 e100) [0, 1, 2, 3, 4, 5, 6, 7, 8, 9, 10, 11, 12, 13, 14] [] [0, 1, 2, 3, 4, 5, 6, 7, 8, 9, 10, 11, 12, 13, 14] rfl rfl rfl 0 rfl rfl lX5_75 ⟨rfl, rfl, by decide, by decide⟩ rfl hl.1 (Nat.le_of_ble_eq_true rfl) rfl dX5_sure_100 (fun H locs hG => ?_)
        refine lv_pop hx hb dX5_sure_103 rfl ?_
        refine lv_iload_n hx hb dX5_sure_104 rfl (lv_at hl 1 rfl) ?_
        cases h
        exact hret _ _ _ _ hG dX5_sure_105 rfl
      · rw [if_pos c80] at h
        refine lv_aload_n hx hb dX5_sure_83 rfl (lv_at hl 0 rfl) ?_
        refine lv_iconst (v := 4) hx hb dX5_sure_84 (by decide) ?_
        obtain ⟨v85, finding_85, findings_85, e85, h⟩ := bd3_some h
        refine x_vi (rest := []) (ws' := (wX5 cI ad deeds finding_85 asked upper lower m_at wrong rowSize rows textSize texts spare now draft tried past kept keptPast keptDeeds findings_85 worth)) hc hG (cc_X5_found0 ad deeds finding asked upper lower m_at wrong rowSize rows textSize texts spare now draft tried past kept keptPast keptDeeds findings worth 4 v85 finding_85 findings_85 e85) [0, 1, 2, 3, 4, 5, 6, 7, 8, 9, 10, 11, 12, 13, 14] [] [0, 1, 2, 3, 4, 5, 6, 7, 8, 9, 10, 11, 12, 13, 14] rfl rfl rfl 0 rfl rfl lX5_71 ⟨rfl, rfl, by decide, by decide⟩ rfl hl.1 (Nat.le_of_ble_eq_true rfl) rfl dX5_sure_85 (fun H locs hG => ?_)
        cases h
        exact hret _ _ _ _ hG dX5_sure_88 rfl
    · rw [if_pos c17] at h
      refine lv_bipush (v := (-4)) hx hb dX5_sure_20 (by decide) ?_
      cases h
      exact hret _ _ _ _ hG dX5_sure_22 rfl
  · rw [if_pos c8] at h
    refine lv_iconst (v := (-1)) hx hb dX5_sure_11 (by decide) ?_
    cases h
    exact hret _ _ _ _ hG dX5_sure_12 rfl
set_option maxRecDepth 100000 in
set_option maxHeartbeats 4000000 in
theorem cc_X5_wrongIn {l : Launch} {D : va_G} {cI : ClassId} {tL : Nat} (ad : Nat → Nat) (deeds : Int32) (finding : Int32) (asked : Int32) (upper : Int64) (lower : Int64) (m_at : Int32) (wrong : Int32) (rowSize : Nat → Int32) (rows : Nat → Int32) (textSize : Nat → Int32) (texts : Nat → Int32) (spare : Nat → Int32) (now : Nat → Int32) (draft : Nat → Int32) (tried : Nat → Int32) (past : Nat → Int32) (kept : Nat → Int32) (keptPast : Nat → Int32) (keptDeeds : Nat → Int32) (findings : Nat → Int32) (worth : Nat → Int32) (x1 : Int32) (r' : Int32) (h : fX5_wrongIn rowSize rows x1 = some r') : Ci l D cI tL yX5_wrongIn cX5_wrongIn 3 .int rmX5_wrongIn (wX5 cI ad deeds finding asked upper lower m_at wrong rowSize rows textSize texts spare now draft tried past kept keptPast keptDeeds findings worth) [.ref (ad 0), .int x1] r' (wX5 cI ad deeds finding asked upper lower m_at wrong rowSize rows textSize texts spare now draft tried past kept keptPast keptDeeds findings worth) := by
  refine Ci_of (own := RX5) (by decide) (Nat.le_of_ble_eq_true rfl) rfl ?_
  intro p e s m below meth c Q A AV hc hret ls hl hG
  obtain ⟨hx, hb, hml, hown, hts, hK, hA, hz⟩ := id hc
  have hl : lv_has ls 3 [(0, .ref (ad 0)), (1, .int x1)] := hl
  have hL_32 : ∀ (x1 : Int32) (o : (Int32 ⊕ Unit)), (∀ (r : Int32), o = .inl r → ∀ (H : Heap) (locs : List Loc) (pc : Nat) (ls : Array Slot), St D A s (wX5 cI ad deeds finding asked upper lower m_at wrong rowSize rows textSize texts spare now draft tried past kept keptPast keptDeeds findings worth) H locs → decode cX5_wrongIn pc = .ok (.ireturn, 1) → narrow .int (.int r) = .int r → W p l e rmX5_wrongIn s m AV below meth c H locs 0 0 Q (F0 m pc ls [.int r])) → (∀ (_ : Unit), o = .inr () → ∀ (ls : Array Slot) (H : Heap) (locs : List Loc), lv_has ls 3 [(0, .ref (ad 0))] → St D A s (wX5 cI ad deeds finding asked upper lower m_at wrong rowSize rows textSize texts spare now draft tried past kept keptPast keptDeeds findings worth) H locs → W p l e rmX5_wrongIn s m AV below meth c H locs 0 0 Q (F0 m 71 ls [])) → ∀ (n : Nat) (x2 : Int32), fX5_wrongIn_L32 rowSize rows x1 n x2 = some o → ∀ (ls : Array Slot) (H : Heap) (locs : List Loc), lv_has ls 3 [(0, .ref (ad 0)), (1, .int x1), (2, .int x2)] → St D A s (wX5 cI ad deeds finding asked upper lower m_at wrong rowSize rows textSize texts spare now draft tried past kept keptPast keptDeeds findings worth) H locs → W p l e rmX5_wrongIn s m AV below meth c H locs 0 0 Q (F0 m 32 ls []) := by
    intro x1 o KR KE n
    induction n with
    | zero =>
      intro x2 h
      exact nomatch (show none = some _ from h)
    | succ n ih =>
      intro x2 h ls H locs hl hG
      have h : fX5_wrongIn_B32 rowSize rows x1 (fX5_wrongIn_L32 rowSize rows x1 n) x2 = some o := h
      unfold fX5_wrongIn_B32 at h
      refine lv_iload_n hx hb dX5_wrongIn_32 rfl (lv_at hl 2 rfl) ?_
      refine lv_aload_n hx hb dX5_wrongIn_33 rfl (lv_at hl 0 rfl) ?_
      refine x_get hc hG 0 rfl iX5 0 lX5_7 rfl dX5_wrongIn_34 ?_
      refine lv_iload_n hx hb dX5_wrongIn_37 rfl (lv_at hl 1 rfl) ?_
      obtain ⟨v38, e38, h⟩ := bd1_some h
      refine x_ald hc hG 1 rfl e38 dX5_wrongIn_38 ?_
      refine lv_icmp_ge (tgt := 71) hx hb dX5_wrongIn_39 (by decide) (fun c39 => ?_) (fun c39 => ?_)
      · rw [if_pos c39] at h
        cases h
        exact KE () rfl _ _ _ (lv_sub hl [0] rfl) hG
      · rw [if_neg c39] at h
        refine lv_aload_n hx hb dX5_wrongIn_42 rfl (lv_at hl 0 rfl) ?_
        refine x_get hc hG 0 rfl iX5 1 lX5_13 rfl dX5_wrongIn_43 ?_
        refine lv_bipush (v := 40) hx hb dX5_wrongIn_46 (by decide) ?_
        refine lv_iload_n hx hb dX5_wrongIn_48 rfl (lv_at hl 1 rfl) ?_
        refine lv_imul hx hb dX5_wrongIn_49 ?_
        refine lv_iload_n hx hb dX5_wrongIn_50 rfl (lv_at hl 2 rfl) ?_
        refine lv_iadd hx hb dX5_wrongIn_51 ?_
        obtain ⟨v52, e52, h⟩ := bd1_some h
        refine x_ald hc hG 2 rfl e52 dX5_wrongIn_52 ?_
        refine lv_iconst (v := 0) hx hb dX5_wrongIn_53 (by decide) ?_
        refine lv_sipush (v := 255) hx hb dX5_wrongIn_54 (by decide) ?_
        obtain ⟨v57, e57, h⟩ := bd1_some h
        refine x_si0 (rest := []) hc hG (cc_X5_in0 v52 0 255 v57 e57) lX5_63 ⟨rfl, rfl, by decide, by decide⟩ rfl hl.1 (Nat.le_of_ble_eq_true rfl) rfl dX5_wrongIn_57 (fun H locs hG => ?_)
        refine lv_if_ne (tgt := 65) hx hb dX5_wrongIn_60 (by decide) (fun c60 => ?_) (fun c60 => ?_)
        · rw [if_neg c60] at h
          refine lv_iinc (v := (x2 + 1)) (lv' := [(2, .int (x2 + 1)), (0, .ref (ad 0)), (1, .int x1)]) hx hb dX5_wrongIn_65 hl (k := 2) rfl rfl (by decide) rfl (fun ls hl => ?_)
          refine lv_goto (tgt := 32) hx hb dX5_wrongIn_68 (by decide) ?_
          exact ih _ h _ _ _ (lv_sub hl [1, 2, 0] rfl) hG
        · rw [if_pos c60] at h
          refine lv_iconst (v := 3) hx hb dX5_wrongIn_63 (by decide) ?_
          cases h
          exact KR _ rfl _ _ _ _ hG dX5_wrongIn_64 rfl
  unfold fX5_wrongIn at h
  refine lv_aload_n hx hb dX5_wrongIn_0 rfl (lv_at hl 0 rfl) ?_
  refine x_get hc hG 0 rfl iX5 0 lX5_7 rfl dX5_wrongIn_1 ?_
  refine lv_iload_n hx hb dX5_wrongIn_4 rfl (lv_at hl 1 rfl) ?_
  obtain ⟨v5, e5, h⟩ := bd1_some h
  refine x_ald hc hG 1 rfl e5 dX5_wrongIn_5 ?_
  refine lv_bipush (v := (-9)) hx hb dX5_wrongIn_6 (by decide) ?_
  refine lv_icmp_ne (tgt := 13) hx hb dX5_wrongIn_8 (by decide) (fun c8 => ?_) (fun c8 => ?_)
  · rw [if_neg c8] at h
    refine lv_aload_n hx hb dX5_wrongIn_13 rfl (lv_at hl 0 rfl) ?_
    refine x_get hc hG 0 rfl iX5 0 lX5_7 rfl dX5_wrongIn_14 ?_
    refine lv_iload_n hx hb dX5_wrongIn_17 rfl (lv_at hl 1 rfl) ?_
    obtain ⟨v18, e18, h⟩ := bd1_some h
    refine x_ald hc hG 1 rfl e18 dX5_wrongIn_18 ?_
    refine lv_iconst (v := 1) hx hb dX5_wrongIn_19 (by decide) ?_
    refine lv_bipush (v := 10) hx hb dX5_wrongIn_20 (by decide) ?_
    obtain ⟨v22, e22, h⟩ := bd1_some h
    refine x_si0 (rest := []) hc hG (cc_X5_in0 v18 1 10 v22 e22) lX5_63 ⟨rfl, rfl, by decide, by decide⟩ rfl hl.1 (Nat.le_of_ble_eq_true rfl) rfl dX5_wrongIn_22 (fun H locs hG => ?_)
    refine lv_if_ne (tgt := 30) hx hb dX5_wrongIn_25 (by decide) (fun c25 => ?_) (fun c25 => ?_)
    · rw [if_neg c25] at h
      refine lv_iconst (v := 0) hx hb dX5_wrongIn_30 (by decide) ?_
      refine lv_istore_n (lv' := [(2, .int 0), (0, .ref (ad 0)), (1, .int x1)]) hx hb dX5_wrongIn_31 rfl hl (by decide) rfl (fun ls hl => ?_)
      rcases st0_some h with e32 | ⟨e32, h⟩
      · exact hL_32 _ _ (fun _ e H locs pc ls hG d hn => by cases e; exact hret _ _ _ _ hG d hn) (fun _ e => by cases e) _ _ e32 _ _ _ (lv_sub hl [1, 2, 0] rfl) hG
      · refine hL_32 _ _ (fun _ e => by cases e) (fun _ e ls H locs hl hG => ?_) _ _ e32 _ _ _ (lv_sub hl [1, 2, 0] rfl) hG
        cases e
        refine lv_iconst (v := 0) hx hb dX5_wrongIn_71 (by decide) ?_
        cases h
        exact hret _ _ _ _ hG dX5_wrongIn_72 rfl
    · rw [if_pos c25] at h
      refine lv_iconst (v := 5) hx hb dX5_wrongIn_28 (by decide) ?_
      cases h
      exact hret _ _ _ _ hG dX5_wrongIn_29 rfl
  · rw [if_pos c8] at h
    refine lv_iconst (v := 1) hx hb dX5_wrongIn_11 (by decide) ?_
    cases h
    exact hret _ _ _ _ hG dX5_wrongIn_12 rfl
set_option maxRecDepth 100000 in
set_option maxHeartbeats 4000000 in
theorem cc_X5_isReadSo {l : Launch} {D : va_G} {cI : ClassId} {tL : Nat} (ad : Nat → Nat) (deeds : Int32) (finding : Int32) (asked : Int32) (upper : Int64) (lower : Int64) (m_at : Int32) (wrong : Int32) (rowSize : Nat → Int32) (rows : Nat → Int32) (textSize : Nat → Int32) (texts : Nat → Int32) (spare : Nat → Int32) (now : Nat → Int32) (draft : Nat → Int32) (tried : Nat → Int32) (past : Nat → Int32) (kept : Nat → Int32) (keptPast : Nat → Int32) (keptDeeds : Nat → Int32) (findings : Nat → Int32) (worth : Nat → Int32) (x1 : Int32) (x2 : Int32) (x3 : Int32) (x4 : Int32) (r' : Int32) (tried' : Nat → Int32) (h : fX5_isReadSo rowSize rows now tried x1 x2 x3 x4 = some (r', tried')) : Ci l D cI tL yX5_isReadSo cX5_isReadSo 8 .boolean rmX5_isReadSo (wX5 cI ad deeds finding asked upper lower m_at wrong rowSize rows textSize texts spare now draft tried past kept keptPast keptDeeds findings worth) [.ref (ad 0), .int x1, .int x2, .int x3, .int x4] r' (wX5 cI ad deeds finding asked upper lower m_at wrong rowSize rows textSize texts spare now draft tried' past kept keptPast keptDeeds findings worth) := by
  refine Ci_of (own := RX5) (by decide) (Nat.le_of_ble_eq_true rfl) rfl ?_
  intro p e s m below meth c Q A AV hc hret ls hl hG
  obtain ⟨hx, hb, hml, hown, hts, hK, hA, hz⟩ := id hc
  have hl : lv_has ls 8 [(0, .ref (ad 0)), (1, .int x1), (2, .int x2), (3, .int x3), (4, .int x4)] := hl
  have hL_35 : ∀ (x1 : Int32) (tried_o : Nat → Int32) (x5_o : Int32), (∀ (ls : Array Slot) (H : Heap) (locs : List Loc), lv_has ls 8 [(0, .ref (ad 0)), (5, .int x5_o)] → St D A s (wX5 cI ad deeds finding asked upper lower m_at wrong rowSize rows textSize texts spare now draft tried_o past kept keptPast keptDeeds findings worth) H locs → W p l e rmX5_isReadSo s m AV below meth c H locs 0 0 Q (F0 m 90 ls [])) → ∀ (n : Nat) (tried : Nat → Int32) (x5 : Int32) (x6 : Int32), fX5_isReadSo_L35 rowSize rows x1 n tried x5 x6 = some (tried_o, x5_o) → ∀ (ls : Array Slot) (H : Heap) (locs : List Loc), lv_has ls 8 [(0, .ref (ad 0)), (1, .int x1), (5, .int x5), (6, .int x6)] → St D A s (wX5 cI ad deeds finding asked upper lower m_at wrong rowSize rows textSize texts spare now draft tried past kept keptPast keptDeeds findings worth) H locs → W p l e rmX5_isReadSo s m AV below meth c H locs 0 0 Q (F0 m 35 ls []) := by
    intro x1 tried_o x5_o KE n
    induction n with
    | zero =>
      intro tried x5 x6 h
      exact nomatch (show none = some _ from h)
    | succ n ih =>
      intro tried x5 x6 h ls H locs hl hG
      have h : fX5_isReadSo_B35 rowSize rows x1 (fX5_isReadSo_L35 rowSize rows x1 n) tried x5 x6 = some (tried_o, x5_o) := h
      have hj_82 : ∀ (tried : Nat → Int32) (x6 : Int32) (k0 : Int32) , fX5_isReadSo_j82 (fX5_isReadSo_L35 rowSize rows x1 n) rowSize rows tried x1 x6 k0 = some (tried_o, x5_o) → ∀ (ls : Array Slot) (H : Heap) (locs : List Loc), lv_has ls 8 [(0, .ref (ad 0)), (1, .int x1), (6, .int x6)] → St D A s (wX5 cI ad deeds finding asked upper lower m_at wrong rowSize rows textSize texts spare now draft tried past kept keptPast keptDeeds findings worth) H locs → W p l e rmX5_isReadSo s m AV below meth c H locs 0 0 Q (F0 m 82 ls [.int k0]) := by
        intro tried x6 k0 h ls H locs hl hG
        unfold fX5_isReadSo_j82 at h
        refine lv_istore (lv' := [(5, .int k0), (0, .ref (ad 0)), (1, .int x1), (6, .int x6)]) hx hb dX5_isReadSo_82 hl (by decide) rfl (fun ls hl => ?_)
        refine lv_iinc (v := (x6 + 1)) (lv' := [(6, .int (x6 + 1)), (5, .int k0), (0, .ref (ad 0)), (1, .int x1)]) hx hb dX5_isReadSo_84 hl (k := 3) rfl rfl (by decide) rfl (fun ls hl => ?_)
        refine lv_goto (tgt := 35) hx hb dX5_isReadSo_87 (by decide) ?_
        exact ih _ _ _ h _ _ _ (lv_sub hl [2, 3, 1, 0] rfl) hG
      have hj_81 : ∀ (tried : Nat → Int32) (x6 : Int32) , fX5_isReadSo_j81 (fX5_isReadSo_L35 rowSize rows x1 n) rowSize rows tried x1 x6 = some (tried_o, x5_o) → ∀ (ls : Array Slot) (H : Heap) (locs : List Loc), lv_has ls 8 [(0, .ref (ad 0)), (1, .int x1), (6, .int x6)] → St D A s (wX5 cI ad deeds finding asked upper lower m_at wrong rowSize rows textSize texts spare now draft tried past kept keptPast keptDeeds findings worth) H locs → W p l e rmX5_isReadSo s m AV below meth c H locs 0 0 Q (F0 m 81 ls []) := by
        intro tried x6 h ls H locs hl hG
        unfold fX5_isReadSo_j81 at h
        refine lv_iconst (v := 0) hx hb dX5_isReadSo_81 (by decide) ?_
        exact hj_82 _ _ _ h _ _ _ (lv_sub hl [0, 1, 2] rfl) hG
      unfold fX5_isReadSo_B35 at h
      refine lv_iload hx hb dX5_isReadSo_35 (lv_at hl 3 rfl) ?_
      refine lv_aload_n hx hb dX5_isReadSo_37 rfl (lv_at hl 0 rfl) ?_
      refine x_get hc hG 0 rfl iX5 0 lX5_7 rfl dX5_isReadSo_38 ?_
      refine lv_iload_n hx hb dX5_isReadSo_41 rfl (lv_at hl 1 rfl) ?_
      obtain ⟨v42, e42, h⟩ := bd1_some h
      refine x_ald hc hG 1 rfl e42 dX5_isReadSo_42 ?_
      refine lv_icmp_ge (tgt := 90) hx hb dX5_isReadSo_43 (by decide) (fun c43 => ?_) (fun c43 => ?_)
      · rw [if_pos c43] at h
        cases h
        exact KE _ _ _ (lv_sub hl [0, 2] rfl) hG
      · rw [if_neg c43] at h
        refine lv_aload_n hx hb dX5_isReadSo_46 rfl (lv_at hl 0 rfl) ?_
        refine x_get hc hG 0 rfl iX5 7 lX5_31 rfl dX5_isReadSo_47 ?_
        obtain ⟨v50, tried_50, e50, h⟩ := bd2_some h
        refine x_si (rest := []) (ws' := (wX5 cI ad deeds finding asked upper lower m_at wrong rowSize rows textSize texts spare now draft tried_50 past kept keptPast keptDeeds findings worth)) hc hG (cc_X5_passes (fun k => ad (8 + k)) 35 tried v50 tried_50 e50) [8] [0, 1, 2, 3, 4, 5, 6, 7, 9, 10, 11, 12, 13, 14] [0, 1, 2, 3, 4, 5, 6, 7, 14, 8, 9, 10, 11, 12, 13] rfl rfl rfl lX5_193 ⟨rfl, rfl, by decide, by decide⟩ rfl hl.1 (Nat.le_of_ble_eq_true rfl) rfl dX5_isReadSo_50 (fun H locs hG => ?_)
        refine lv_istore (lv' := [(7, .int v50), (0, .ref (ad 0)), (1, .int x1), (5, .int x5), (6, .int x6)]) hx hb dX5_isReadSo_53 hl (by decide) rfl (fun ls hl => ?_)
        refine lv_iload hx hb dX5_isReadSo_55 (lv_at hl 3 rfl) ?_
        refine lv_if_eq (tgt := 81) hx hb dX5_isReadSo_57 (by decide) (fun c57 => ?_) (fun c57 => ?_)
        · rw [if_pos c57] at h
          exact hj_81 _ _ h _ _ _ (lv_sub hl [1, 2, 4] rfl) hG
        · rw [if_neg c57] at h
          refine lv_iload hx hb dX5_isReadSo_60 (lv_at hl 0 rfl) ?_
          refine lv_aload_n hx hb dX5_isReadSo_62 rfl (lv_at hl 1 rfl) ?_
          refine x_get hc hG 0 rfl iX5 1 lX5_13 rfl dX5_isReadSo_63 ?_
          refine lv_bipush (v := 40) hx hb dX5_isReadSo_66 (by decide) ?_
          refine lv_iload_n hx hb dX5_isReadSo_68 rfl (lv_at hl 2 rfl) ?_
          refine lv_imul hx hb dX5_isReadSo_69 ?_
          refine lv_iload hx hb dX5_isReadSo_70 (lv_at hl 4 rfl) ?_
          refine lv_iadd hx hb dX5_isReadSo_72 ?_
          obtain ⟨v73, e73, h⟩ := bd1_some h
          refine x_ald hc hG 2 rfl e73 dX5_isReadSo_73 ?_
          refine lv_icmp_ne (tgt := 81) hx hb dX5_isReadSo_74 (by decide) (fun c74 => ?_) (fun c74 => ?_)
          · rw [if_neg c74] at h
            exact hj_81 _ _ h _ _ _ (lv_sub hl [1, 2, 4] rfl) hG
          · rw [if_pos c74] at h
            refine lv_iconst (v := 1) hx hb dX5_isReadSo_77 (by decide) ?_
            refine lv_goto (tgt := 82) hx hb dX5_isReadSo_78 (by decide) ?_
            exact hj_82 _ _ _ h _ _ _ (lv_sub hl [1, 2, 4] rfl) hG
  unfold fX5_isReadSo at h
  refine lv_aload_n hx hb dX5_isReadSo_0 rfl (lv_at hl 0 rfl) ?_
  refine x_get hc hG 0 rfl iX5 5 lX5_25 rfl dX5_isReadSo_1 ?_
  refine lv_iconst (v := 0) hx hb dX5_isReadSo_4 (by decide) ?_
  refine lv_aload_n hx hb dX5_isReadSo_5 rfl (lv_at hl 0 rfl) ?_
  refine x_get hc hG 0 rfl iX5 7 lX5_31 rfl dX5_isReadSo_6 ?_
  refine lv_iconst (v := 0) hx hb dX5_isReadSo_9 (by decide) ?_
  refine lv_bipush (v := 35) hx hb dX5_isReadSo_10 (by decide) ?_
  obtain ⟨tried_12, e12, h⟩ := bd1_some h
  refine x_sv (rest := []) (ws' := (wX5 cI ad deeds finding asked upper lower m_at wrong rowSize rows textSize texts spare now draft tried_12 past kept keptPast keptDeeds findings worth)) hc hG (cc_X5_copies (fun k => match k with | 0 => ad 6 | _ => ad 8) 35 35 now tried 0 0 35 tried_12 e12) [6, 8] [0, 1, 2, 3, 4, 5, 7, 9, 10, 11, 12, 13, 14] [0, 1, 2, 3, 4, 5, 13, 6, 14, 7, 8, 9, 10, 11, 12] rfl rfl rfl lX5_120 ⟨rfl, rfl, by decide, by decide⟩ rfl hl.1 (Nat.le_of_ble_eq_true rfl) rfl dX5_isReadSo_12 (fun H locs hG => ?_)
  refine lv_aload_n hx hb dX5_isReadSo_15 rfl (lv_at hl 0 rfl) ?_
  refine x_get hc hG 0 rfl iX5 7 lX5_31 rfl dX5_isReadSo_16 ?_
  refine lv_iconst (v := 5) hx hb dX5_isReadSo_19 (by decide) ?_
  refine lv_iconst (v := 5) hx hb dX5_isReadSo_20 (by decide) ?_
  refine lv_iload_n hx hb dX5_isReadSo_21 rfl (lv_at hl 2 rfl) ?_
  refine lv_imul hx hb dX5_isReadSo_22 ?_
  refine lv_iadd hx hb dX5_isReadSo_23 ?_
  refine lv_iload_n hx hb dX5_isReadSo_24 rfl (lv_at hl 3 rfl) ?_
  refine lv_iadd hx hb dX5_isReadSo_25 ?_
  refine lv_iload hx hb dX5_isReadSo_26 (lv_at hl 4 rfl) ?_
  obtain ⟨tried_28, e28, h⟩ := bd1_some h
  refine x_ast (ws' := (wX5 cI ad deeds finding asked upper lower m_at wrong rowSize rows textSize texts spare now draft tried_28 past kept keptPast keptDeeds findings worth)) hc hG 8 rfl e28 rfl dX5_isReadSo_28 (fun H locs hG => ?_)
  refine lv_iconst (v := 1) hx hb dX5_isReadSo_29 (by decide) ?_
  refine lv_istore (lv' := [(5, .int 1), (0, .ref (ad 0)), (1, .int x1), (2, .int x2), (3, .int x3), (4, .int x4)]) hx hb dX5_isReadSo_30 hl (by decide) rfl (fun ls hl => ?_)
  refine lv_iconst (v := 0) hx hb dX5_isReadSo_32 (by decide) ?_
  refine lv_istore (lv' := [(6, .int 0), (5, .int 1), (0, .ref (ad 0)), (1, .int x1), (2, .int x2), (3, .int x3), (4, .int x4)]) hx hb dX5_isReadSo_33 hl (by decide) rfl (fun ls hl => ?_)
  obtain ⟨tried_L35, x5_L35, e35, h⟩ := bd2_some h
  refine hL_35 _ _ _ (fun ls H locs hl hG => ?_) _ _ _ _ e35 _ _ _ (lv_sub hl [2, 3, 1, 0] rfl) hG
  refine lv_iload hx hb dX5_isReadSo_90 (lv_at hl 1 rfl) ?_
  by_cases cz : x5_L35 &&& 1 = x5_L35
  · rw [if_pos cz] at h
    cases h
    exact hret _ _ _ _ hG dX5_isReadSo_92 (nb cz)
  · rw [if_neg cz] at h
    cases h
set_option maxRecDepth 100000 in
set_option maxHeartbeats 4000000 in
theorem cc_X5_places {l : Launch} {D : va_G} {cI : ClassId} {tL : Nat} (ad : Nat → Nat) (deeds : Int32) (finding : Int32) (asked : Int32) (upper : Int64) (lower : Int64) (m_at : Int32) (wrong : Int32) (rowSize : Nat → Int32) (rows : Nat → Int32) (textSize : Nat → Int32) (texts : Nat → Int32) (spare : Nat → Int32) (now : Nat → Int32) (draft : Nat → Int32) (tried : Nat → Int32) (past : Nat → Int32) (kept : Nat → Int32) (keptPast : Nat → Int32) (keptDeeds : Nat → Int32) (findings : Nat → Int32) (worth : Nat → Int32) (x1 : Int32) (x2 : Int32) (r' : Int32) (finding' : Int32) (tried' : Nat → Int32) (findings' : Nat → Int32) (h : fX5_places finding rowSize rows now tried findings x1 x2 = some (r', finding', tried', findings')) : Ci l D cI tL yX5_places cX5_places 6 .int rmX5_places (wX5 cI ad deeds finding asked upper lower m_at wrong rowSize rows textSize texts spare now draft tried past kept keptPast keptDeeds findings worth) [.ref (ad 0), .int x1, .int x2] r' (wX5 cI ad deeds finding' asked upper lower m_at wrong rowSize rows textSize texts spare now draft tried' past kept keptPast keptDeeds findings' worth) := by
  refine Ci_of (own := RX5) (by decide) (Nat.le_of_ble_eq_true rfl) rfl ?_
  intro p e s m below meth c Q A AV hc hret ls hl hG
  obtain ⟨hx, hb, hml, hown, hts, hK, hA, hz⟩ := id hc
  have hl : lv_has ls 6 [(0, .ref (ad 0)), (1, .int x1), (2, .int x2)] := hl
  have hL_39 : ∀ (x1 : Int32) (x2 : Int32) (finding : Int32) (findings : Nat → Int32) (tried_o : Nat → Int32) (x4_o : Int32), (∀ (ls : Array Slot) (H : Heap) (locs : List Loc), lv_has ls 6 [(0, .ref (ad 0)), (4, .int x4_o)] → St D A s (wX5 cI ad deeds finding asked upper lower m_at wrong rowSize rows textSize texts spare now draft tried_o past kept keptPast keptDeeds findings worth) H locs → W p l e rmX5_places s m AV below meth c H locs 0 0 Q (F0 m 77 ls [])) → ∀ (n : Nat) (tried : Nat → Int32) (x4 : Int32) (x5 : Int32), fX5_places_L39 rowSize rows now x1 x2 n tried x4 x5 = some (tried_o, x4_o) → ∀ (ls : Array Slot) (H : Heap) (locs : List Loc), lv_has ls 6 [(0, .ref (ad 0)), (1, .int x1), (2, .int x2), (4, .int x4), (5, .int x5)] → St D A s (wX5 cI ad deeds finding asked upper lower m_at wrong rowSize rows textSize texts spare now draft tried past kept keptPast keptDeeds findings worth) H locs → W p l e rmX5_places s m AV below meth c H locs 0 0 Q (F0 m 39 ls []) := by
    intro x1 x2 finding findings tried_o x4_o KE n
    induction n with
    | zero =>
      intro tried x4 x5 h
      exact nomatch (show none = some _ from h)
    | succ n ih =>
      intro tried x4 x5 h ls H locs hl hG
      have h : fX5_places_B39 rowSize rows now x1 x2 (fX5_places_L39 rowSize rows now x1 x2 n) tried x4 x5 = some (tried_o, x4_o) := h
      have hj_68 : ∀ (tried : Nat → Int32) (x5 : Int32) (k0 : Int32) (k1 : Int32) , fX5_places_j68 (fX5_places_L39 rowSize rows now x1 x2 n) rowSize rows now tried x1 x2 x5 k0 k1 = some (tried_o, x4_o) → ∀ (ls : Array Slot) (H : Heap) (locs : List Loc), lv_has ls 6 [(0, .ref (ad 0)), (1, .int x1), (2, .int x2), (5, .int x5)] → St D A s (wX5 cI ad deeds finding asked upper lower m_at wrong rowSize rows textSize texts spare now draft tried past kept keptPast keptDeeds findings worth) H locs → W p l e rmX5_places s m AV below meth c H locs 0 0 Q (F0 m 68 ls [.int k1, .int k0]) := by
        intro tried x5 k0 k1 h ls H locs hl hG
        unfold fX5_places_j68 at h
        refine lv_ior hx hb dX5_places_68 ?_
        refine lv_istore (lv' := [(4, .int (k0 ||| k1)), (0, .ref (ad 0)), (1, .int x1), (2, .int x2), (5, .int x5)]) hx hb dX5_places_69 hl (by decide) rfl (fun ls hl => ?_)
        refine lv_iinc (v := (x5 + 1)) (lv' := [(5, .int (x5 + 1)), (4, .int (k0 ||| k1)), (0, .ref (ad 0)), (1, .int x1), (2, .int x2)]) hx hb dX5_places_71 hl (k := 4) rfl rfl (by decide) rfl (fun ls hl => ?_)
        refine lv_goto (tgt := 39) hx hb dX5_places_74 (by decide) ?_
        exact ih _ _ _ h _ _ _ (lv_sub hl [2, 3, 4, 1, 0] rfl) hG
      unfold fX5_places_B39 at h
      refine lv_iload hx hb dX5_places_39 (lv_at hl 4 rfl) ?_
      refine lv_bipush (v := 16) hx hb dX5_places_41 (by decide) ?_
      refine lv_icmp_ge (tgt := 77) hx hb dX5_places_43 (by decide) (fun c43 => ?_) (fun c43 => ?_)
      · rw [if_pos c43] at h
        cases h
        exact KE _ _ _ (lv_sub hl [0, 3] rfl) hG
      · rw [if_neg c43] at h
        refine lv_iload hx hb dX5_places_46 (lv_at hl 3 rfl) ?_
        refine lv_aload_n hx hb dX5_places_48 rfl (lv_at hl 0 rfl) ?_
        refine lv_iload_n hx hb dX5_places_49 rfl (lv_at hl 2 rfl) ?_
        refine lv_iload_n hx hb dX5_places_50 rfl (lv_at hl 1 rfl) ?_
        refine lv_iconst (v := 1) hx hb dX5_places_51 (by decide) ?_
        refine lv_iload hx hb dX5_places_52 (lv_at hl 4 rfl) ?_
        obtain ⟨v54, tried_54, e54, h⟩ := bd2_some h
        refine x_vi (rest := [.int x4]) (ws' := (wX5 cI ad deeds finding asked upper lower m_at wrong rowSize rows textSize texts spare now draft tried_54 past kept keptPast keptDeeds findings worth)) hc hG (cc_X5_isReadSo ad deeds finding asked upper lower m_at wrong rowSize rows textSize texts spare now draft tried past kept keptPast keptDeeds findings worth x2 x1 1 x5 v54 tried_54 e54) [0, 1, 2, 3, 4, 5, 6, 7, 8, 9, 10, 11, 12, 13, 14] [] [0, 1, 2, 3, 4, 5, 6, 7, 8, 9, 10, 11, 12, 13, 14] rfl rfl rfl 0 rfl rfl lX5_221 ⟨rfl, rfl, by decide, by decide⟩ rfl hl.1 (Nat.le_of_ble_eq_true rfl) rfl dX5_places_54 (fun H locs hG => ?_)
        refine lv_if_eq (tgt := 67) hx hb dX5_places_57 (by decide) (fun c57 => ?_) (fun c57 => ?_)
        · rw [if_pos c57] at h
          refine lv_iconst (v := 0) hx hb dX5_places_67 (by decide) ?_
          exact hj_68 _ _ _ _ h _ _ _ (lv_sub hl [0, 1, 2, 4] rfl) hG
        · rw [if_neg c57] at h
          refine lv_iconst (v := 1) hx hb dX5_places_60 (by decide) ?_
          refine lv_iload hx hb dX5_places_61 (lv_at hl 4 rfl) ?_
          refine lv_ishl hx hb dX5_places_63 ?_
          refine lv_goto (tgt := 68) hx hb dX5_places_64 (by decide) ?_
          exact hj_68 _ _ _ _ h _ _ _ (lv_sub hl [0, 1, 2, 4] rfl) hG
  unfold fX5_places at h
  refine lv_aload_n hx hb dX5_places_0 rfl (lv_at hl 0 rfl) ?_
  refine lv_iload_n hx hb dX5_places_1 rfl (lv_at hl 1 rfl) ?_
  obtain ⟨v2, e2, h⟩ := bd1_some h
  refine x_vi (rest := []) (ws' := (wX5 cI ad deeds finding asked upper lower m_at wrong rowSize rows textSize texts spare now draft tried past kept keptPast keptDeeds findings worth)) hc hG (cc_X5_isPeel ad deeds finding asked upper lower m_at wrong rowSize rows textSize texts spare now draft tried past kept keptPast keptDeeds findings worth x1 v2 e2) [0, 1, 2, 3, 4, 5, 6, 7, 8, 9, 10, 11, 12, 13, 14] [] [0, 1, 2, 3, 4, 5, 6, 7, 8, 9, 10, 11, 12, 13, 14] rfl rfl rfl 0 rfl rfl lX5_170 ⟨rfl, rfl, by decide, by decide⟩ rfl hl.1 (Nat.le_of_ble_eq_true rfl) rfl dX5_places_2 (fun H locs hG => ?_)
  refine lv_if_eq (tgt := 15) hx hb dX5_places_5 (by decide) (fun c5 => ?_) (fun c5 => ?_)
  · rw [if_pos c5] at h
    refine lv_iconst (v := (-1)) hx hb dX5_places_15 (by decide) ?_
    cases h
    exact hret _ _ _ _ hG dX5_places_16 rfl
  · rw [if_neg c5] at h
    refine lv_iload_n hx hb dX5_places_8 rfl (lv_at hl 2 rfl) ?_
    obtain ⟨v9, e9, h⟩ := bd1_some h
    refine x_si0 (rest := []) hc hG (cc_X5_isRow x2 v9 e9) lX5_67 ⟨rfl, rfl, by decide, by decide⟩ rfl hl.1 (Nat.le_of_ble_eq_true rfl) rfl dX5_places_9 (fun H locs hG => ?_)
    refine lv_if_ne (tgt := 17) hx hb dX5_places_12 (by decide) (fun c12 => ?_) (fun c12 => ?_)
    · rw [if_neg c12] at h
      refine lv_aload_n hx hb dX5_places_17 rfl (lv_at hl 0 rfl) ?_
      refine lv_iload_n hx hb dX5_places_18 rfl (lv_at hl 2 rfl) ?_
      obtain ⟨v19, e19, h⟩ := bd1_some h
      refine x_vi (rest := []) (ws' := (wX5 cI ad deeds finding asked upper lower m_at wrong rowSize rows textSize texts spare now draft tried past kept keptPast keptDeeds findings worth)) hc hG (cc_X5_wrongIn ad deeds finding asked upper lower m_at wrong rowSize rows textSize texts spare now draft tried past kept keptPast keptDeeds findings worth x2 v19 e19) [0, 1, 2, 3, 4, 5, 6, 7, 8, 9, 10, 11, 12, 13, 14] [] [0, 1, 2, 3, 4, 5, 6, 7, 8, 9, 10, 11, 12, 13, 14] rfl rfl rfl 0 rfl rfl lX5_218 ⟨rfl, rfl, by decide, by decide⟩ rfl hl.1 (Nat.le_of_ble_eq_true rfl) rfl dX5_places_19 (fun H locs hG => ?_)
      refine lv_istore_n (lv' := [(3, .int v19), (0, .ref (ad 0)), (1, .int x1), (2, .int x2)]) hx hb dX5_places_22 rfl hl (by decide) rfl (fun ls hl => ?_)
      refine lv_iload_n hx hb dX5_places_23 rfl (lv_at hl 0 rfl) ?_
      refine lv_if_le (tgt := 33) hx hb dX5_places_24 (by decide) (fun c24 => ?_) (fun c24 => ?_)
      · rw [if_pos c24] at h
        refine lv_iconst (v := 0) hx hb dX5_places_33 (by decide) ?_
        refine lv_istore (lv' := [(4, .int 0), (3, .int v19), (0, .ref (ad 0)), (1, .int x1), (2, .int x2)]) hx hb dX5_places_34 hl (by decide) rfl (fun ls hl => ?_)
        refine lv_iconst (v := 0) hx hb dX5_places_36 (by decide) ?_
        refine lv_istore (lv' := [(5, .int 0), (4, .int 0), (3, .int v19), (0, .ref (ad 0)), (1, .int x1), (2, .int x2)]) hx hb dX5_places_37 hl (by decide) rfl (fun ls hl => ?_)
        obtain ⟨tried_L39, x4_L39, e39, h⟩ := bd2_some h
        refine hL_39 _ _ _ _ _ _ (fun ls H locs hl hG => ?_) _ _ _ _ e39 _ _ _ (lv_sub hl [3, 4, 5, 1, 0] rfl) hG
        refine lv_iload hx hb dX5_places_77 (lv_at hl 1 rfl) ?_
        cases h
        exact hret _ _ _ _ hG dX5_places_79 rfl
      · rw [if_neg c24] at h
        refine lv_aload_n hx hb dX5_places_27 rfl (lv_at hl 1 rfl) ?_
        refine lv_iload_n hx hb dX5_places_28 rfl (lv_at hl 0 rfl) ?_
        obtain ⟨v29, finding_29, findings_29, e29, h⟩ := bd3_some h
        refine x_vi (rest := []) (ws' := (wX5 cI ad deeds finding_29 asked upper lower m_at wrong rowSize rows textSize texts spare now draft tried past kept keptPast keptDeeds findings_29 worth)) hc hG (cc_X5_found0 ad deeds finding asked upper lower m_at wrong rowSize rows textSize texts spare now draft tried past kept keptPast keptDeeds findings worth v19 v29 finding_29 findings_29 e29) [0, 1, 2, 3, 4, 5, 6, 7, 8, 9, 10, 11, 12, 13, 14] [] [0, 1, 2, 3, 4, 5, 6, 7, 8, 9, 10, 11, 12, 13, 14] rfl rfl rfl 0 rfl rfl lX5_71 ⟨rfl, rfl, by decide, by decide⟩ rfl hl.1 (Nat.le_of_ble_eq_true rfl) rfl dX5_places_29 (fun H locs hG => ?_)
        cases h
        exact hret _ _ _ _ hG dX5_places_32 rfl
    · rw [if_pos c12] at h
      refine lv_iconst (v := (-1)) hx hb dX5_places_15 (by decide) ?_
      cases h
      exact hret _ _ _ _ hG dX5_places_16 rfl
set_option maxRecDepth 100000 in
set_option maxHeartbeats 4000000 in
theorem cc_X5_kinds {l : Launch} {D : va_G} {cI : ClassId} {tL : Nat} (ad : Nat → Nat) (deeds : Int32) (finding : Int32) (asked : Int32) (upper : Int64) (lower : Int64) (m_at : Int32) (wrong : Int32) (rowSize : Nat → Int32) (rows : Nat → Int32) (textSize : Nat → Int32) (texts : Nat → Int32) (spare : Nat → Int32) (now : Nat → Int32) (draft : Nat → Int32) (tried : Nat → Int32) (past : Nat → Int32) (kept : Nat → Int32) (keptPast : Nat → Int32) (keptDeeds : Nat → Int32) (findings : Nat → Int32) (worth : Nat → Int32) (x1 : Int32) (x2 : Int32) (r' : Int32) (finding' : Int32) (tried' : Nat → Int32) (findings' : Nat → Int32) (h : fX5_kinds finding rowSize rows now tried findings x1 x2 = some (r', finding', tried', findings')) : Ci l D cI tL yX5_kinds cX5_kinds 6 .int rmX5_kinds (wX5 cI ad deeds finding asked upper lower m_at wrong rowSize rows textSize texts spare now draft tried past kept keptPast keptDeeds findings worth) [.ref (ad 0), .int x1, .int x2] r' (wX5 cI ad deeds finding' asked upper lower m_at wrong rowSize rows textSize texts spare now draft tried' past kept keptPast keptDeeds findings' worth) := by
  refine Ci_of (own := RX5) (by decide) (Nat.le_of_ble_eq_true rfl) rfl ?_
  intro p e s m below meth c Q A AV hc hret ls hl hG
  obtain ⟨hx, hb, hml, hown, hts, hK, hA, hz⟩ := id hc
  have hl : lv_has ls 6 [(0, .ref (ad 0)), (1, .int x1), (2, .int x2)] := hl
  have hL_39 : ∀ (x1 : Int32) (x2 : Int32) (finding : Int32) (findings : Nat → Int32) (tried_o : Nat → Int32) (x4_o : Int32), (∀ (ls : Array Slot) (H : Heap) (locs : List Loc), lv_has ls 6 [(0, .ref (ad 0)), (4, .int x4_o)] → St D A s (wX5 cI ad deeds finding asked upper lower m_at wrong rowSize rows textSize texts spare now draft tried_o past kept keptPast keptDeeds findings worth) H locs → W p l e rmX5_kinds s m AV below meth c H locs 0 0 Q (F0 m 77 ls [])) → ∀ (n : Nat) (tried : Nat → Int32) (x4 : Int32) (x5 : Int32), fX5_kinds_L39 rowSize rows now x1 x2 n tried x4 x5 = some (tried_o, x4_o) → ∀ (ls : Array Slot) (H : Heap) (locs : List Loc), lv_has ls 6 [(0, .ref (ad 0)), (1, .int x1), (2, .int x2), (4, .int x4), (5, .int x5)] → St D A s (wX5 cI ad deeds finding asked upper lower m_at wrong rowSize rows textSize texts spare now draft tried past kept keptPast keptDeeds findings worth) H locs → W p l e rmX5_kinds s m AV below meth c H locs 0 0 Q (F0 m 39 ls []) := by
    intro x1 x2 finding findings tried_o x4_o KE n
    induction n with
    | zero =>
      intro tried x4 x5 h
      exact nomatch (show none = some _ from h)
    | succ n ih =>
      intro tried x4 x5 h ls H locs hl hG
      have h : fX5_kinds_B39 rowSize rows now x1 x2 (fX5_kinds_L39 rowSize rows now x1 x2 n) tried x4 x5 = some (tried_o, x4_o) := h
      have hj_68 : ∀ (tried : Nat → Int32) (x5 : Int32) (k0 : Int32) (k1 : Int32) , fX5_kinds_j68 (fX5_kinds_L39 rowSize rows now x1 x2 n) rowSize rows now tried x1 x2 x5 k0 k1 = some (tried_o, x4_o) → ∀ (ls : Array Slot) (H : Heap) (locs : List Loc), lv_has ls 6 [(0, .ref (ad 0)), (1, .int x1), (2, .int x2), (5, .int x5)] → St D A s (wX5 cI ad deeds finding asked upper lower m_at wrong rowSize rows textSize texts spare now draft tried past kept keptPast keptDeeds findings worth) H locs → W p l e rmX5_kinds s m AV below meth c H locs 0 0 Q (F0 m 68 ls [.int k1, .int k0]) := by
        intro tried x5 k0 k1 h ls H locs hl hG
        unfold fX5_kinds_j68 at h
        refine lv_ior hx hb dX5_kinds_68 ?_
        refine lv_istore (lv' := [(4, .int (k0 ||| k1)), (0, .ref (ad 0)), (1, .int x1), (2, .int x2), (5, .int x5)]) hx hb dX5_kinds_69 hl (by decide) rfl (fun ls hl => ?_)
        refine lv_iinc (v := (x5 + 1)) (lv' := [(5, .int (x5 + 1)), (4, .int (k0 ||| k1)), (0, .ref (ad 0)), (1, .int x1), (2, .int x2)]) hx hb dX5_kinds_71 hl (k := 4) rfl rfl (by decide) rfl (fun ls hl => ?_)
        refine lv_goto (tgt := 39) hx hb dX5_kinds_74 (by decide) ?_
        exact ih _ _ _ h _ _ _ (lv_sub hl [2, 3, 4, 1, 0] rfl) hG
      unfold fX5_kinds_B39 at h
      refine lv_iload hx hb dX5_kinds_39 (lv_at hl 4 rfl) ?_
      refine lv_bipush (v := 6) hx hb dX5_kinds_41 (by decide) ?_
      refine lv_icmp_ge (tgt := 77) hx hb dX5_kinds_43 (by decide) (fun c43 => ?_) (fun c43 => ?_)
      · rw [if_pos c43] at h
        cases h
        exact KE _ _ _ (lv_sub hl [0, 3] rfl) hG
      · rw [if_neg c43] at h
        refine lv_iload hx hb dX5_kinds_46 (lv_at hl 3 rfl) ?_
        refine lv_aload_n hx hb dX5_kinds_48 rfl (lv_at hl 0 rfl) ?_
        refine lv_iload_n hx hb dX5_kinds_49 rfl (lv_at hl 2 rfl) ?_
        refine lv_iload_n hx hb dX5_kinds_50 rfl (lv_at hl 1 rfl) ?_
        refine lv_iconst (v := 0) hx hb dX5_kinds_51 (by decide) ?_
        refine lv_iload hx hb dX5_kinds_52 (lv_at hl 4 rfl) ?_
        obtain ⟨v54, tried_54, e54, h⟩ := bd2_some h
        refine x_vi (rest := [.int x4]) (ws' := (wX5 cI ad deeds finding asked upper lower m_at wrong rowSize rows textSize texts spare now draft tried_54 past kept keptPast keptDeeds findings worth)) hc hG (cc_X5_isReadSo ad deeds finding asked upper lower m_at wrong rowSize rows textSize texts spare now draft tried past kept keptPast keptDeeds findings worth x2 x1 0 x5 v54 tried_54 e54) [0, 1, 2, 3, 4, 5, 6, 7, 8, 9, 10, 11, 12, 13, 14] [] [0, 1, 2, 3, 4, 5, 6, 7, 8, 9, 10, 11, 12, 13, 14] rfl rfl rfl 0 rfl rfl lX5_221 ⟨rfl, rfl, by decide, by decide⟩ rfl hl.1 (Nat.le_of_ble_eq_true rfl) rfl dX5_kinds_54 (fun H locs hG => ?_)
        refine lv_if_eq (tgt := 67) hx hb dX5_kinds_57 (by decide) (fun c57 => ?_) (fun c57 => ?_)
        · rw [if_pos c57] at h
          refine lv_iconst (v := 0) hx hb dX5_kinds_67 (by decide) ?_
          exact hj_68 _ _ _ _ h _ _ _ (lv_sub hl [0, 1, 2, 4] rfl) hG
        · rw [if_neg c57] at h
          refine lv_iconst (v := 1) hx hb dX5_kinds_60 (by decide) ?_
          refine lv_iload hx hb dX5_kinds_61 (lv_at hl 4 rfl) ?_
          refine lv_ishl hx hb dX5_kinds_63 ?_
          refine lv_goto (tgt := 68) hx hb dX5_kinds_64 (by decide) ?_
          exact hj_68 _ _ _ _ h _ _ _ (lv_sub hl [0, 1, 2, 4] rfl) hG
  unfold fX5_kinds at h
  refine lv_aload_n hx hb dX5_kinds_0 rfl (lv_at hl 0 rfl) ?_
  refine lv_iload_n hx hb dX5_kinds_1 rfl (lv_at hl 1 rfl) ?_
  obtain ⟨v2, e2, h⟩ := bd1_some h
  refine x_vi (rest := []) (ws' := (wX5 cI ad deeds finding asked upper lower m_at wrong rowSize rows textSize texts spare now draft tried past kept keptPast keptDeeds findings worth)) hc hG (cc_X5_isPeel ad deeds finding asked upper lower m_at wrong rowSize rows textSize texts spare now draft tried past kept keptPast keptDeeds findings worth x1 v2 e2) [0, 1, 2, 3, 4, 5, 6, 7, 8, 9, 10, 11, 12, 13, 14] [] [0, 1, 2, 3, 4, 5, 6, 7, 8, 9, 10, 11, 12, 13, 14] rfl rfl rfl 0 rfl rfl lX5_170 ⟨rfl, rfl, by decide, by decide⟩ rfl hl.1 (Nat.le_of_ble_eq_true rfl) rfl dX5_kinds_2 (fun H locs hG => ?_)
  refine lv_if_eq (tgt := 15) hx hb dX5_kinds_5 (by decide) (fun c5 => ?_) (fun c5 => ?_)
  · rw [if_pos c5] at h
    refine lv_iconst (v := (-1)) hx hb dX5_kinds_15 (by decide) ?_
    cases h
    exact hret _ _ _ _ hG dX5_kinds_16 rfl
  · rw [if_neg c5] at h
    refine lv_iload_n hx hb dX5_kinds_8 rfl (lv_at hl 2 rfl) ?_
    obtain ⟨v9, e9, h⟩ := bd1_some h
    refine x_si0 (rest := []) hc hG (cc_X5_isRow x2 v9 e9) lX5_67 ⟨rfl, rfl, by decide, by decide⟩ rfl hl.1 (Nat.le_of_ble_eq_true rfl) rfl dX5_kinds_9 (fun H locs hG => ?_)
    refine lv_if_ne (tgt := 17) hx hb dX5_kinds_12 (by decide) (fun c12 => ?_) (fun c12 => ?_)
    · rw [if_neg c12] at h
      refine lv_aload_n hx hb dX5_kinds_17 rfl (lv_at hl 0 rfl) ?_
      refine lv_iload_n hx hb dX5_kinds_18 rfl (lv_at hl 2 rfl) ?_
      obtain ⟨v19, e19, h⟩ := bd1_some h
      refine x_vi (rest := []) (ws' := (wX5 cI ad deeds finding asked upper lower m_at wrong rowSize rows textSize texts spare now draft tried past kept keptPast keptDeeds findings worth)) hc hG (cc_X5_wrongIn ad deeds finding asked upper lower m_at wrong rowSize rows textSize texts spare now draft tried past kept keptPast keptDeeds findings worth x2 v19 e19) [0, 1, 2, 3, 4, 5, 6, 7, 8, 9, 10, 11, 12, 13, 14] [] [0, 1, 2, 3, 4, 5, 6, 7, 8, 9, 10, 11, 12, 13, 14] rfl rfl rfl 0 rfl rfl lX5_218 ⟨rfl, rfl, by decide, by decide⟩ rfl hl.1 (Nat.le_of_ble_eq_true rfl) rfl dX5_kinds_19 (fun H locs hG => ?_)
      refine lv_istore_n (lv' := [(3, .int v19), (0, .ref (ad 0)), (1, .int x1), (2, .int x2)]) hx hb dX5_kinds_22 rfl hl (by decide) rfl (fun ls hl => ?_)
      refine lv_iload_n hx hb dX5_kinds_23 rfl (lv_at hl 0 rfl) ?_
      refine lv_if_le (tgt := 33) hx hb dX5_kinds_24 (by decide) (fun c24 => ?_) (fun c24 => ?_)
      · rw [if_pos c24] at h
        refine lv_iconst (v := 0) hx hb dX5_kinds_33 (by decide) ?_
        refine lv_istore (lv' := [(4, .int 0), (3, .int v19), (0, .ref (ad 0)), (1, .int x1), (2, .int x2)]) hx hb dX5_kinds_34 hl (by decide) rfl (fun ls hl => ?_)
        refine lv_iconst (v := 0) hx hb dX5_kinds_36 (by decide) ?_
        refine lv_istore (lv' := [(5, .int 0), (4, .int 0), (3, .int v19), (0, .ref (ad 0)), (1, .int x1), (2, .int x2)]) hx hb dX5_kinds_37 hl (by decide) rfl (fun ls hl => ?_)
        obtain ⟨tried_L39, x4_L39, e39, h⟩ := bd2_some h
        refine hL_39 _ _ _ _ _ _ (fun ls H locs hl hG => ?_) _ _ _ _ e39 _ _ _ (lv_sub hl [3, 4, 5, 1, 0] rfl) hG
        refine lv_iload hx hb dX5_kinds_77 (lv_at hl 1 rfl) ?_
        cases h
        exact hret _ _ _ _ hG dX5_kinds_79 rfl
      · rw [if_neg c24] at h
        refine lv_aload_n hx hb dX5_kinds_27 rfl (lv_at hl 1 rfl) ?_
        refine lv_iload_n hx hb dX5_kinds_28 rfl (lv_at hl 0 rfl) ?_
        obtain ⟨v29, finding_29, findings_29, e29, h⟩ := bd3_some h
        refine x_vi (rest := []) (ws' := (wX5 cI ad deeds finding_29 asked upper lower m_at wrong rowSize rows textSize texts spare now draft tried past kept keptPast keptDeeds findings_29 worth)) hc hG (cc_X5_found0 ad deeds finding asked upper lower m_at wrong rowSize rows textSize texts spare now draft tried past kept keptPast keptDeeds findings worth v19 v29 finding_29 findings_29 e29) [0, 1, 2, 3, 4, 5, 6, 7, 8, 9, 10, 11, 12, 13, 14] [] [0, 1, 2, 3, 4, 5, 6, 7, 8, 9, 10, 11, 12, 13, 14] rfl rfl rfl 0 rfl rfl lX5_71 ⟨rfl, rfl, by decide, by decide⟩ rfl hl.1 (Nat.le_of_ble_eq_true rfl) rfl dX5_kinds_29 (fun H locs hG => ?_)
        cases h
        exact hret _ _ _ _ hG dX5_kinds_32 rfl
    · rw [if_pos c12] at h
      refine lv_iconst (v := (-1)) hx hb dX5_kinds_15 (by decide) ?_
      cases h
      exact hret _ _ _ _ hG dX5_kinds_16 rfl
set_option maxRecDepth 100000 in
set_option maxHeartbeats 4000000 in
theorem cc_X5_next {l : Launch} {D : va_G} {cI : ClassId} {tL : Nat} (ad : Nat → Nat) (deeds : Int32) (finding : Int32) (asked : Int32) (upper : Int64) (lower : Int64) (m_at : Int32) (wrong : Int32) (rowSize : Nat → Int32) (rows : Nat → Int32) (textSize : Nat → Int32) (texts : Nat → Int32) (spare : Nat → Int32) (now : Nat → Int32) (draft : Nat → Int32) (tried : Nat → Int32) (past : Nat → Int32) (kept : Nat → Int32) (keptPast : Nat → Int32) (keptDeeds : Nat → Int32) (findings : Nat → Int32) (worth : Nat → Int32) (x1 : Int32) (x2 : Int32) (r' : Int32) (finding' : Int32) (asked' : Int32) (tried' : Nat → Int32) (findings' : Nat → Int32) (h : fX5_next finding asked rowSize rows now tried findings x1 x2 = some (r', finding', asked', tried', findings')) : Ci l D cI tL yX5_next cX5_next 10 .int rmX5_next (wX5 cI ad deeds finding asked upper lower m_at wrong rowSize rows textSize texts spare now draft tried past kept keptPast keptDeeds findings worth) [.ref (ad 0), .int x1, .int x2] r' (wX5 cI ad deeds finding' asked' upper lower m_at wrong rowSize rows textSize texts spare now draft tried' past kept keptPast keptDeeds findings' worth) := by
  refine Ci_of (own := RX5) (by decide) (Nat.le_of_ble_eq_true rfl) rfl ?_
  intro p e s m below meth c Q A AV hc hret ls hl hG
  obtain ⟨hx, hb, hml, hown, hts, hK, hA, hz⟩ := id hc
  have hl : lv_has ls 10 [(0, .ref (ad 0)), (1, .int x1), (2, .int x2)] := hl
  have hL_60 : ∀ (x1 : Int32) (x2 : Int32) (x6 : Int32) (finding : Int32) (asked : Int32) (findings : Nat → Int32) (x4 : Int32) (x5 : Int32) (tried_o : Nat → Int32) (x7_o : Int32) (x8_o : Int32), (∀ (ls : Array Slot) (H : Heap) (locs : List Loc), lv_has ls 10 [(0, .ref (ad 0)), (1, .int x1), (2, .int x2), (4, .int x4), (5, .int x5), (6, .int x6), (7, .int x7_o), (8, .int x8_o)] → St D A s (wX5 cI ad deeds finding asked upper lower m_at wrong rowSize rows textSize texts spare now draft tried_o past kept keptPast keptDeeds findings worth) H locs → W p l e rmX5_next s m AV below meth c H locs 0 0 Q (F0 m 105 ls [])) → ∀ (n : Nat) (tried : Nat → Int32) (x7 : Int32) (x8 : Int32) (x9 : Int32), fX5_next_L60 rowSize rows now x1 x2 x6 n tried x7 x8 x9 = some (tried_o, x7_o, x8_o) → ∀ (ls : Array Slot) (H : Heap) (locs : List Loc), lv_has ls 10 [(0, .ref (ad 0)), (1, .int x1), (2, .int x2), (4, .int x4), (5, .int x5), (6, .int x6), (7, .int x7), (8, .int x8), (9, .int x9)] → St D A s (wX5 cI ad deeds finding asked upper lower m_at wrong rowSize rows textSize texts spare now draft tried past kept keptPast keptDeeds findings worth) H locs → W p l e rmX5_next s m AV below meth c H locs 0 0 Q (F0 m 60 ls []) := by
    intro x1 x2 x6 finding asked findings x4 x5 tried_o x7_o x8_o KE n
    induction n with
    | zero =>
      intro tried x7 x8 x9 h
      exact nomatch (show none = some _ from h)
    | succ n ih =>
      intro tried x7 x8 x9 h ls H locs hl hG
      have h : fX5_next_B60 rowSize rows now x1 x2 x6 (fX5_next_L60 rowSize rows now x1 x2 x6 n) tried x7 x8 x9 = some (tried_o, x7_o, x8_o) := h
      have hj_99 : ∀ (tried : Nat → Int32) (x7 : Int32) (x8 : Int32) (x9 : Int32) , fX5_next_j99 (fX5_next_L60 rowSize rows now x1 x2 x6 n) rowSize rows now tried x1 x2 x6 x7 x8 x9 = some (tried_o, x7_o, x8_o) → ∀ (ls : Array Slot) (H : Heap) (locs : List Loc), lv_has ls 10 [(0, .ref (ad 0)), (1, .int x1), (2, .int x2), (4, .int x4), (5, .int x5), (6, .int x6), (7, .int x7), (8, .int x8), (9, .int x9)] → St D A s (wX5 cI ad deeds finding asked upper lower m_at wrong rowSize rows textSize texts spare now draft tried past kept keptPast keptDeeds findings worth) H locs → W p l e rmX5_next s m AV below meth c H locs 0 0 Q (F0 m 99 ls []) := by
        intro tried x7 x8 x9 h ls H locs hl hG
        unfold fX5_next_j99 at h
        refine lv_iinc (v := (x9 + 1)) (lv' := [(9, .int (x9 + 1)), (0, .ref (ad 0)), (1, .int x1), (2, .int x2), (4, .int x4), (5, .int x5), (6, .int x6), (7, .int x7), (8, .int x8)]) hx hb dX5_next_99 hl (k := 8) rfl rfl (by decide) rfl (fun ls hl => ?_)
        refine lv_goto (tgt := 60) hx hb dX5_next_102 (by decide) ?_
        exact ih _ _ _ _ h _ _ _ (lv_sub hl [1, 2, 3, 4, 5, 6, 7, 8, 0] rfl) hG
      unfold fX5_next_B60 at h
      refine lv_iload hx hb dX5_next_60 (lv_at hl 8 rfl) ?_
      refine lv_bipush (v := 16) hx hb dX5_next_62 (by decide) ?_
      refine lv_icmp_ge (tgt := 105) hx hb dX5_next_64 (by decide) (fun c64 => ?_) (fun c64 => ?_)
      · rw [if_pos c64] at h
        cases h
        exact KE _ _ _ (lv_sub hl [0, 1, 2, 3, 4, 5, 6, 7] rfl) hG
      · rw [if_neg c64] at h
        refine lv_aload_n hx hb dX5_next_67 rfl (lv_at hl 0 rfl) ?_
        refine lv_iload_n hx hb dX5_next_68 rfl (lv_at hl 2 rfl) ?_
        refine lv_iload_n hx hb dX5_next_69 rfl (lv_at hl 1 rfl) ?_
        refine lv_iconst (v := 1) hx hb dX5_next_70 (by decide) ?_
        refine lv_iload hx hb dX5_next_71 (lv_at hl 8 rfl) ?_
        obtain ⟨v73, tried_73, e73, h⟩ := bd2_some h
        refine x_vi (rest := []) (ws' := (wX5 cI ad deeds finding asked upper lower m_at wrong rowSize rows textSize texts spare now draft tried_73 past kept keptPast keptDeeds findings worth)) hc hG (cc_X5_isReadSo ad deeds finding asked upper lower m_at wrong rowSize rows textSize texts spare now draft tried past kept keptPast keptDeeds findings worth x2 x1 1 x9 v73 tried_73 e73) [0, 1, 2, 3, 4, 5, 6, 7, 8, 9, 10, 11, 12, 13, 14] [] [0, 1, 2, 3, 4, 5, 6, 7, 8, 9, 10, 11, 12, 13, 14] rfl rfl rfl 0 rfl rfl lX5_221 ⟨rfl, rfl, by decide, by decide⟩ rfl hl.1 (Nat.le_of_ble_eq_true rfl) rfl dX5_next_73 (fun H locs hG => ?_)
        refine lv_if_eq (tgt := 99) hx hb dX5_next_76 (by decide) (fun c76 => ?_) (fun c76 => ?_)
        · rw [if_pos c76] at h
          exact hj_99 _ _ _ _ h _ _ _ (lv_sub hl [0, 1, 2, 3, 4, 5, 6, 7, 8] rfl) hG
        · rw [if_neg c76] at h
          refine lv_iinc (v := (x7 + 1)) (lv' := [(7, .int (x7 + 1)), (0, .ref (ad 0)), (1, .int x1), (2, .int x2), (4, .int x4), (5, .int x5), (6, .int x6), (8, .int x8), (9, .int x9)]) hx hb dX5_next_79 hl (k := 6) rfl rfl (by decide) rfl (fun ls hl => ?_)
          refine lv_iload hx hb dX5_next_82 (lv_at hl 7 rfl) ?_
          refine lv_aload_n hx hb dX5_next_84 rfl (lv_at hl 1 rfl) ?_
          refine x_get hc hG 0 rfl iX5 7 lX5_31 rfl dX5_next_85 ?_
          obtain ⟨v88, tried_88, e88, h⟩ := bd2_some h
          refine x_si (rest := [.int x8]) (ws' := (wX5 cI ad deeds finding asked upper lower m_at wrong rowSize rows textSize texts spare now draft tried_88 past kept keptPast keptDeeds findings worth)) hc hG (cc_X5_passes (fun k => ad (8 + k)) 35 tried_73 v88 tried_88 e88) [8] [0, 1, 2, 3, 4, 5, 6, 7, 9, 10, 11, 12, 13, 14] [0, 1, 2, 3, 4, 5, 6, 7, 14, 8, 9, 10, 11, 12, 13] rfl rfl rfl lX5_193 ⟨rfl, rfl, by decide, by decide⟩ rfl hl.1 (Nat.le_of_ble_eq_true rfl) rfl dX5_next_88 (fun H locs hG => ?_)
          refine lv_iload hx hb dX5_next_91 (lv_at hl 6 rfl) ?_
          refine lv_ishr hx hb dX5_next_93 ?_
          refine lv_iconst (v := 1) hx hb dX5_next_94 (by decide) ?_
          refine lv_iand hx hb dX5_next_95 ?_
          refine lv_iadd hx hb dX5_next_96 ?_
          refine lv_istore (lv' := [(8, .int (x8 + ((v88 >>> (x6 &&& 31)) &&& 1))), (7, .int (x7 + 1)), (0, .ref (ad 0)), (1, .int x1), (2, .int x2), (4, .int x4), (5, .int x5), (6, .int x6), (9, .int x9)]) hx hb dX5_next_97 hl (by decide) rfl (fun ls hl => ?_)
          exact hj_99 _ _ _ _ h _ _ _ (lv_sub hl [2, 3, 4, 5, 6, 7, 1, 0, 8] rfl) hG
  have hL_44 : ∀ (x1 : Int32) (x2 : Int32) (finding : Int32) (asked : Int32) (findings : Nat → Int32) (tried_o : Nat → Int32) (x4_o : Int32) (x5_o : Int32), (∀ (ls : Array Slot) (H : Heap) (locs : List Loc), lv_has ls 10 [(0, .ref (ad 0)), (4, .int x4_o), (5, .int x5_o)] → St D A s (wX5 cI ad deeds finding asked upper lower m_at wrong rowSize rows textSize texts spare now draft tried_o past kept keptPast keptDeeds findings worth) H locs → W p l e rmX5_next s m AV below meth c H locs 0 0 Q (F0 m 175 ls [])) → ∀ (n : Nat) (tried : Nat → Int32) (x4 : Int32) (x5 : Int32) (x6 : Int32), fX5_next_L44 rowSize rows now x1 x2 n tried x4 x5 x6 = some (tried_o, x4_o, x5_o) → ∀ (ls : Array Slot) (H : Heap) (locs : List Loc), lv_has ls 10 [(0, .ref (ad 0)), (1, .int x1), (2, .int x2), (4, .int x4), (5, .int x5), (6, .int x6)] → St D A s (wX5 cI ad deeds finding asked upper lower m_at wrong rowSize rows textSize texts spare now draft tried past kept keptPast keptDeeds findings worth) H locs → W p l e rmX5_next s m AV below meth c H locs 0 0 Q (F0 m 44 ls []) := by
    intro x1 x2 finding asked findings tried_o x4_o x5_o KE n
    induction n with
    | zero =>
      intro tried x4 x5 x6 h
      exact nomatch (show none = some _ from h)
    | succ n ih =>
      intro tried x4 x5 x6 h ls H locs hl hG
      have h : fX5_next_B44 rowSize rows now x1 x2 (fX5_next_L44 rowSize rows now x1 x2 n) tried x4 x5 x6 = some (tried_o, x4_o, x5_o) := h
      have hj_167 : ∀ (tried : Nat → Int32) (x4 : Int32) (x6 : Int32) (k0 : Int32) , fX5_next_j167 (fX5_next_L44 rowSize rows now x1 x2 n) rowSize rows now tried x1 x2 x4 x6 k0 = some (tried_o, x4_o, x5_o) → ∀ (ls : Array Slot) (H : Heap) (locs : List Loc), lv_has ls 10 [(0, .ref (ad 0)), (1, .int x1), (2, .int x2), (4, .int x4), (6, .int x6)] → St D A s (wX5 cI ad deeds finding asked upper lower m_at wrong rowSize rows textSize texts spare now draft tried past kept keptPast keptDeeds findings worth) H locs → W p l e rmX5_next s m AV below meth c H locs 0 0 Q (F0 m 167 ls [.int k0]) := by
        intro tried x4 x6 k0 h ls H locs hl hG
        unfold fX5_next_j167 at h
        refine lv_istore (lv' := [(5, .int k0), (0, .ref (ad 0)), (1, .int x1), (2, .int x2), (4, .int x4), (6, .int x6)]) hx hb dX5_next_167 hl (by decide) rfl (fun ls hl => ?_)
        refine lv_iinc (v := (x6 + 1)) (lv' := [(6, .int (x6 + 1)), (5, .int k0), (0, .ref (ad 0)), (1, .int x1), (2, .int x2), (4, .int x4)]) hx hb dX5_next_169 hl (k := 5) rfl rfl (by decide) rfl (fun ls hl => ?_)
        refine lv_goto (tgt := 44) hx hb dX5_next_172 (by decide) ?_
        exact ih _ _ _ _ h _ _ _ (lv_sub hl [2, 3, 4, 5, 1, 0] rfl) hG
      have hj_165 : ∀ (tried : Nat → Int32) (x4 : Int32) (x5 : Int32) (x6 : Int32) , fX5_next_j165 (fX5_next_L44 rowSize rows now x1 x2 n) rowSize rows now tried x1 x2 x4 x5 x6 = some (tried_o, x4_o, x5_o) → ∀ (ls : Array Slot) (H : Heap) (locs : List Loc), lv_has ls 10 [(0, .ref (ad 0)), (1, .int x1), (2, .int x2), (4, .int x4), (5, .int x5), (6, .int x6)] → St D A s (wX5 cI ad deeds finding asked upper lower m_at wrong rowSize rows textSize texts spare now draft tried past kept keptPast keptDeeds findings worth) H locs → W p l e rmX5_next s m AV below meth c H locs 0 0 Q (F0 m 165 ls []) := by
        intro tried x4 x5 x6 h ls H locs hl hG
        unfold fX5_next_j165 at h
        refine lv_iload hx hb dX5_next_165 (lv_at hl 4 rfl) ?_
        exact hj_167 _ _ _ _ h _ _ _ (lv_sub hl [0, 1, 2, 3, 5] rfl) hG
      have hj_146 : ∀ (tried : Nat → Int32) (x5 : Int32) (x6 : Int32) (x7 : Int32) (x9 : Int32) (k0 : Int32) , fX5_next_j146 (fX5_next_L44 rowSize rows now x1 x2 n) rowSize rows now tried x1 x2 x5 x6 x7 x9 k0 = some (tried_o, x4_o, x5_o) → ∀ (ls : Array Slot) (H : Heap) (locs : List Loc), lv_has ls 10 [(0, .ref (ad 0)), (1, .int x1), (2, .int x2), (5, .int x5), (6, .int x6), (7, .int x7), (9, .int x9)] → St D A s (wX5 cI ad deeds finding asked upper lower m_at wrong rowSize rows textSize texts spare now draft tried past kept keptPast keptDeeds findings worth) H locs → W p l e rmX5_next s m AV below meth c H locs 0 0 Q (F0 m 146 ls [.int k0]) := by
        intro tried x5 x6 x7 x9 k0 h ls H locs hl hG
        unfold fX5_next_j146 at h
        refine lv_istore (lv' := [(4, .int k0), (0, .ref (ad 0)), (1, .int x1), (2, .int x2), (5, .int x5), (6, .int x6), (7, .int x7), (9, .int x9)]) hx hb dX5_next_146 hl (by decide) rfl (fun ls hl => ?_)
        refine lv_iload hx hb dX5_next_148 (lv_at hl 6 rfl) ?_
        refine lv_if_le (tgt := 165) hx hb dX5_next_150 (by decide) (fun c150 => ?_) (fun c150 => ?_)
        · rw [if_pos c150] at h
          exact hj_165 _ _ _ _ h _ _ _ (lv_sub hl [1, 2, 3, 0, 4, 5] rfl) hG
        · rw [if_neg c150] at h
          refine lv_iload hx hb dX5_next_153 (lv_at hl 7 rfl) ?_
          refine lv_iload hx hb dX5_next_155 (lv_at hl 4 rfl) ?_
          refine lv_icmp_ge (tgt := 165) hx hb dX5_next_157 (by decide) (fun c157 => ?_) (fun c157 => ?_)
          · rw [if_pos c157] at h
            exact hj_165 _ _ _ _ h _ _ _ (lv_sub hl [1, 2, 3, 0, 4, 5] rfl) hG
          · rw [if_neg c157] at h
            refine lv_iload hx hb dX5_next_160 (lv_at hl 7 rfl) ?_
            refine lv_goto (tgt := 167) hx hb dX5_next_162 (by decide) ?_
            exact hj_167 _ _ _ _ h _ _ _ (lv_sub hl [1, 2, 3, 0, 5] rfl) hG
      have hj_144 : ∀ (tried : Nat → Int32) (x4 : Int32) (x5 : Int32) (x6 : Int32) (x7 : Int32) (x9 : Int32) , fX5_next_j144 (fX5_next_L44 rowSize rows now x1 x2 n) rowSize rows now tried x1 x2 x4 x5 x6 x7 x9 = some (tried_o, x4_o, x5_o) → ∀ (ls : Array Slot) (H : Heap) (locs : List Loc), lv_has ls 10 [(0, .ref (ad 0)), (1, .int x1), (2, .int x2), (4, .int x4), (5, .int x5), (6, .int x6), (7, .int x7), (9, .int x9)] → St D A s (wX5 cI ad deeds finding asked upper lower m_at wrong rowSize rows textSize texts spare now draft tried past kept keptPast keptDeeds findings worth) H locs → W p l e rmX5_next s m AV below meth c H locs 0 0 Q (F0 m 144 ls []) := by
        intro tried x4 x5 x6 x7 x9 h ls H locs hl hG
        unfold fX5_next_j144 at h
        refine lv_iload hx hb dX5_next_144 (lv_at hl 3 rfl) ?_
        exact hj_146 _ _ _ _ _ _ h _ _ _ (lv_sub hl [0, 1, 2, 4, 5, 6, 7] rfl) hG
      have hj_125 : ∀ (tried : Nat → Int32) (x4 : Int32) (x5 : Int32) (x6 : Int32) (x7 : Int32) (k0 : Int32) , fX5_next_j125 (fX5_next_L44 rowSize rows now x1 x2 n) rowSize rows now tried x1 x2 x4 x5 x6 x7 k0 = some (tried_o, x4_o, x5_o) → ∀ (ls : Array Slot) (H : Heap) (locs : List Loc), lv_has ls 10 [(0, .ref (ad 0)), (1, .int x1), (2, .int x2), (4, .int x4), (5, .int x5), (6, .int x6), (7, .int x7)] → St D A s (wX5 cI ad deeds finding asked upper lower m_at wrong rowSize rows textSize texts spare now draft tried past kept keptPast keptDeeds findings worth) H locs → W p l e rmX5_next s m AV below meth c H locs 0 0 Q (F0 m 125 ls [.int k0]) := by
        intro tried x4 x5 x6 x7 k0 h ls H locs hl hG
        unfold fX5_next_j125 at h
        refine lv_istore (lv' := [(9, .int k0), (0, .ref (ad 0)), (1, .int x1), (2, .int x2), (4, .int x4), (5, .int x5), (6, .int x6), (7, .int x7)]) hx hb dX5_next_125 hl (by decide) rfl (fun ls hl => ?_)
        refine lv_iload hx hb dX5_next_127 (lv_at hl 7 rfl) ?_
        refine lv_if_le (tgt := 144) hx hb dX5_next_129 (by decide) (fun c129 => ?_) (fun c129 => ?_)
        · rw [if_pos c129] at h
          exact hj_144 _ _ _ _ _ _ h _ _ _ (lv_sub hl [1, 2, 3, 4, 5, 6, 7, 0] rfl) hG
        · rw [if_neg c129] at h
          refine lv_iload hx hb dX5_next_132 (lv_at hl 0 rfl) ?_
          refine lv_iload hx hb dX5_next_134 (lv_at hl 5 rfl) ?_
          refine lv_icmp_ge (tgt := 144) hx hb dX5_next_136 (by decide) (fun c136 => ?_) (fun c136 => ?_)
          · rw [if_pos c136] at h
            exact hj_144 _ _ _ _ _ _ h _ _ _ (lv_sub hl [1, 2, 3, 4, 5, 6, 7, 0] rfl) hG
          · rw [if_neg c136] at h
            refine lv_iload hx hb dX5_next_139 (lv_at hl 6 rfl) ?_
            refine lv_goto (tgt := 146) hx hb dX5_next_141 (by decide) ?_
            exact hj_146 _ _ _ _ _ _ h _ _ _ (lv_sub hl [1, 2, 3, 5, 6, 7, 0] rfl) hG
      unfold fX5_next_B44 at h
      refine lv_iload hx hb dX5_next_44 (lv_at hl 5 rfl) ?_
      refine lv_bipush (v := 8) hx hb dX5_next_46 (by decide) ?_
      refine lv_icmp_ge (tgt := 175) hx hb dX5_next_48 (by decide) (fun c48 => ?_) (fun c48 => ?_)
      · rw [if_pos c48] at h
        cases h
        exact KE _ _ _ (lv_sub hl [0, 3, 4] rfl) hG
      · rw [if_neg c48] at h
        refine lv_iconst (v := 0) hx hb dX5_next_51 (by decide) ?_
        refine lv_istore (lv' := [(7, .int 0), (0, .ref (ad 0)), (1, .int x1), (2, .int x2), (4, .int x4), (5, .int x5), (6, .int x6)]) hx hb dX5_next_52 hl (by decide) rfl (fun ls hl => ?_)
        refine lv_iconst (v := 0) hx hb dX5_next_54 (by decide) ?_
        refine lv_istore (lv' := [(8, .int 0), (7, .int 0), (0, .ref (ad 0)), (1, .int x1), (2, .int x2), (4, .int x4), (5, .int x5), (6, .int x6)]) hx hb dX5_next_55 hl (by decide) rfl (fun ls hl => ?_)
        refine lv_iconst (v := 0) hx hb dX5_next_57 (by decide) ?_
        refine lv_istore (lv' := [(9, .int 0), (8, .int 0), (7, .int 0), (0, .ref (ad 0)), (1, .int x1), (2, .int x2), (4, .int x4), (5, .int x5), (6, .int x6)]) hx hb dX5_next_58 hl (by decide) rfl (fun ls hl => ?_)
        obtain ⟨tried_L60, x7_L60, x8_L60, e60, h⟩ := bd3_some h
        refine hL_60 _ _ _ _ _ _ _ _ _ _ _ (fun ls H locs hl hG => ?_) _ _ _ _ _ e60 _ _ _ (lv_sub hl [3, 4, 5, 6, 7, 8, 2, 1, 0] rfl) hG
        refine lv_iload hx hb dX5_next_105 (lv_at hl 7 rfl) ?_
        refine lv_iload hx hb dX5_next_107 (lv_at hl 6 rfl) ?_
        refine lv_iload hx hb dX5_next_109 (lv_at hl 7 rfl) ?_
        refine lv_isub hx hb dX5_next_111 ?_
        refine lv_icmp_le (tgt := 120) hx hb dX5_next_112 (by decide) (fun c112 => ?_) (fun c112 => ?_)
        · rw [if_pos c112] at h
          refine lv_iload hx hb dX5_next_120 (lv_at hl 6 rfl) ?_
          refine lv_iload hx hb dX5_next_122 (lv_at hl 7 rfl) ?_
          refine lv_isub hx hb dX5_next_124 ?_
          exact hj_125 _ _ _ _ _ _ h _ _ _ (lv_sub hl [0, 1, 2, 3, 4, 5, 6] rfl) hG
        · rw [if_neg c112] at h
          refine lv_iload hx hb dX5_next_115 (lv_at hl 7 rfl) ?_
          refine lv_goto (tgt := 125) hx hb dX5_next_117 (by decide) ?_
          exact hj_125 _ _ _ _ _ _ h _ _ _ (lv_sub hl [0, 1, 2, 3, 4, 5, 6] rfl) hG
  unfold fX5_next at h
  refine lv_aload_n hx hb dX5_next_0 rfl (lv_at hl 0 rfl) ?_
  refine lv_iload_n hx hb dX5_next_1 rfl (lv_at hl 1 rfl) ?_
  obtain ⟨v2, e2, h⟩ := bd1_some h
  refine x_vi (rest := []) (ws' := (wX5 cI ad deeds finding asked upper lower m_at wrong rowSize rows textSize texts spare now draft tried past kept keptPast keptDeeds findings worth)) hc hG (cc_X5_isPeel ad deeds finding asked upper lower m_at wrong rowSize rows textSize texts spare now draft tried past kept keptPast keptDeeds findings worth x1 v2 e2) [0, 1, 2, 3, 4, 5, 6, 7, 8, 9, 10, 11, 12, 13, 14] [] [0, 1, 2, 3, 4, 5, 6, 7, 8, 9, 10, 11, 12, 13, 14] rfl rfl rfl 0 rfl rfl lX5_170 ⟨rfl, rfl, by decide, by decide⟩ rfl hl.1 (Nat.le_of_ble_eq_true rfl) rfl dX5_next_2 (fun H locs hG => ?_)
  refine lv_if_eq (tgt := 15) hx hb dX5_next_5 (by decide) (fun c5 => ?_) (fun c5 => ?_)
  · rw [if_pos c5] at h
    refine lv_iconst (v := (-1)) hx hb dX5_next_15 (by decide) ?_
    cases h
    exact hret _ _ _ _ hG dX5_next_16 rfl
  · rw [if_neg c5] at h
    refine lv_iload_n hx hb dX5_next_8 rfl (lv_at hl 2 rfl) ?_
    obtain ⟨v9, e9, h⟩ := bd1_some h
    refine x_si0 (rest := []) hc hG (cc_X5_isRow x2 v9 e9) lX5_67 ⟨rfl, rfl, by decide, by decide⟩ rfl hl.1 (Nat.le_of_ble_eq_true rfl) rfl dX5_next_9 (fun H locs hG => ?_)
    refine lv_if_ne (tgt := 17) hx hb dX5_next_12 (by decide) (fun c12 => ?_) (fun c12 => ?_)
    · rw [if_neg c12] at h
      refine lv_aload_n hx hb dX5_next_17 rfl (lv_at hl 0 rfl) ?_
      refine lv_iload_n hx hb dX5_next_18 rfl (lv_at hl 2 rfl) ?_
      obtain ⟨v19, e19, h⟩ := bd1_some h
      refine x_vi (rest := []) (ws' := (wX5 cI ad deeds finding asked upper lower m_at wrong rowSize rows textSize texts spare now draft tried past kept keptPast keptDeeds findings worth)) hc hG (cc_X5_wrongIn ad deeds finding asked upper lower m_at wrong rowSize rows textSize texts spare now draft tried past kept keptPast keptDeeds findings worth x2 v19 e19) [0, 1, 2, 3, 4, 5, 6, 7, 8, 9, 10, 11, 12, 13, 14] [] [0, 1, 2, 3, 4, 5, 6, 7, 8, 9, 10, 11, 12, 13, 14] rfl rfl rfl 0 rfl rfl lX5_218 ⟨rfl, rfl, by decide, by decide⟩ rfl hl.1 (Nat.le_of_ble_eq_true rfl) rfl dX5_next_19 (fun H locs hG => ?_)
      refine lv_istore_n (lv' := [(3, .int v19), (0, .ref (ad 0)), (1, .int x1), (2, .int x2)]) hx hb dX5_next_22 rfl hl (by decide) rfl (fun ls hl => ?_)
      refine lv_iload_n hx hb dX5_next_23 rfl (lv_at hl 0 rfl) ?_
      refine lv_if_le (tgt := 33) hx hb dX5_next_24 (by decide) (fun c24 => ?_) (fun c24 => ?_)
      · rw [if_pos c24] at h
        refine lv_bipush (v := (-9)) hx hb dX5_next_33 (by decide) ?_
        refine lv_istore (lv' := [(4, .int (-9)), (3, .int v19), (0, .ref (ad 0)), (1, .int x1), (2, .int x2)]) hx hb dX5_next_35 hl (by decide) rfl (fun ls hl => ?_)
        refine lv_bipush (v := 17) hx hb dX5_next_37 (by decide) ?_
        refine lv_istore (lv' := [(5, .int 17), (4, .int (-9)), (3, .int v19), (0, .ref (ad 0)), (1, .int x1), (2, .int x2)]) hx hb dX5_next_39 hl (by decide) rfl (fun ls hl => ?_)
        refine lv_iconst (v := 0) hx hb dX5_next_41 (by decide) ?_
        refine lv_istore (lv' := [(6, .int 0), (5, .int 17), (4, .int (-9)), (3, .int v19), (0, .ref (ad 0)), (1, .int x1), (2, .int x2)]) hx hb dX5_next_42 hl (by decide) rfl (fun ls hl => ?_)
        obtain ⟨tried_L44, x4_L44, x5_L44, e44, h⟩ := bd3_some h
        refine hL_44 _ _ _ _ _ _ _ _ (fun ls H locs hl hG => ?_) _ _ _ _ _ e44 _ _ _ (lv_sub hl [4, 5, 6, 2, 1, 0] rfl) hG
        refine lv_iload hx hb dX5_next_175 (lv_at hl 1 rfl) ?_
        refine lv_bipush (v := (-9)) hx hb dX5_next_177 (by decide) ?_
        refine lv_icmp_eq (tgt := 189) hx hb dX5_next_179 (by decide) (fun c179 => ?_) (fun c179 => ?_)
        · rw [if_pos c179] at h
          refine lv_iload hx hb dX5_next_189 (lv_at hl 1 rfl) ?_
          cases h
          exact hret _ _ _ _ hG dX5_next_191 rfl
        · rw [if_neg c179] at h
          refine lv_aload_n hx hb dX5_next_182 rfl (lv_at hl 0 rfl) ?_
          refine lv_iload hx hb dX5_next_183 (lv_at hl 2 rfl) ?_
          obtain ⟨v185, asked_185, e185, h⟩ := bd2_some h
          refine x_vi (rest := []) (ws' := (wX5 cI ad deeds finding asked_185 upper lower m_at wrong rowSize rows textSize texts spare now draft tried_L44 past kept keptPast keptDeeds findings worth)) hc hG (cc_X5_tells ad deeds finding asked upper lower m_at wrong rowSize rows textSize texts spare now draft tried_L44 past kept keptPast keptDeeds findings worth x5_L44 v185 asked_185 e185) [0, 1, 2, 3, 4, 5, 6, 7, 8, 9, 10, 11, 12, 13, 14] [] [0, 1, 2, 3, 4, 5, 6, 7, 8, 9, 10, 11, 12, 13, 14] rfl rfl rfl 0 rfl rfl lX5_75 ⟨rfl, rfl, by decide, by decide⟩ rfl hl.1 (Nat.le_of_ble_eq_true rfl) rfl dX5_next_185 (fun H locs hG => ?_)
          refine lv_pop hx hb dX5_next_188 rfl ?_
          refine lv_iload hx hb dX5_next_189 (lv_at hl 1 rfl) ?_
          cases h
          exact hret _ _ _ _ hG dX5_next_191 rfl
      · rw [if_neg c24] at h
        refine lv_aload_n hx hb dX5_next_27 rfl (lv_at hl 1 rfl) ?_
        refine lv_iload_n hx hb dX5_next_28 rfl (lv_at hl 0 rfl) ?_
        obtain ⟨v29, finding_29, findings_29, e29, h⟩ := bd3_some h
        refine x_vi (rest := []) (ws' := (wX5 cI ad deeds finding_29 asked upper lower m_at wrong rowSize rows textSize texts spare now draft tried past kept keptPast keptDeeds findings_29 worth)) hc hG (cc_X5_found0 ad deeds finding asked upper lower m_at wrong rowSize rows textSize texts spare now draft tried past kept keptPast keptDeeds findings worth v19 v29 finding_29 findings_29 e29) [0, 1, 2, 3, 4, 5, 6, 7, 8, 9, 10, 11, 12, 13, 14] [] [0, 1, 2, 3, 4, 5, 6, 7, 8, 9, 10, 11, 12, 13, 14] rfl rfl rfl 0 rfl rfl lX5_71 ⟨rfl, rfl, by decide, by decide⟩ rfl hl.1 (Nat.le_of_ble_eq_true rfl) rfl dX5_next_29 (fun H locs hG => ?_)
        cases h
        exact hret _ _ _ _ hG dX5_next_32 rfl
    · rw [if_pos c12] at h
      refine lv_iconst (v := (-1)) hx hb dX5_next_15 (by decide) ?_
      cases h
      exact hret _ _ _ _ hG dX5_next_16 rfl
set_option maxRecDepth 100000 in
set_option maxHeartbeats 4000000 in
theorem cc_X5_lengthOf {l : Launch} {D : va_G} {cI : ClassId} {tL : Nat} (ad : Nat → Nat) (deeds : Int32) (finding : Int32) (asked : Int32) (upper : Int64) (lower : Int64) (m_at : Int32) (wrong : Int32) (rowSize : Nat → Int32) (rows : Nat → Int32) (textSize : Nat → Int32) (texts : Nat → Int32) (spare : Nat → Int32) (now : Nat → Int32) (draft : Nat → Int32) (tried : Nat → Int32) (past : Nat → Int32) (kept : Nat → Int32) (keptPast : Nat → Int32) (keptDeeds : Nat → Int32) (findings : Nat → Int32) (worth : Nat → Int32) (x1 : Int32) (r' : Int32) (h : fX5_lengthOf now x1 = some r') : Ci l D cI tL yX5_lengthOf cX5_lengthOf 4 .int rmX5_lengthOf (wX5 cI ad deeds finding asked upper lower m_at wrong rowSize rows textSize texts spare now draft tried past kept keptPast keptDeeds findings worth) [.ref (ad 0), .int x1] r' (wX5 cI ad deeds finding asked upper lower m_at wrong rowSize rows textSize texts spare now draft tried past kept keptPast keptDeeds findings worth) := by
  refine Ci_of (own := RX5) (by decide) (Nat.le_of_ble_eq_true rfl) rfl ?_
  intro p e s m below meth c Q A AV hc hret ls hl hG
  obtain ⟨hx, hb, hml, hown, hts, hK, hA, hz⟩ := id hc
  have hl : lv_has ls 4 [(0, .ref (ad 0)), (1, .int x1)] := hl
  have hL_4 : ∀ (x1 : Int32) (x2_o : Int32), (∀ (ls : Array Slot) (H : Heap) (locs : List Loc), lv_has ls 4 [(0, .ref (ad 0)), (2, .int x2_o)] → St D A s (wX5 cI ad deeds finding asked upper lower m_at wrong rowSize rows textSize texts spare now draft tried past kept keptPast keptDeeds findings worth) H locs → W p l e rmX5_lengthOf s m AV below meth c H locs 0 0 Q (F0 m 47 ls [])) → ∀ (n : Nat) (x2 : Int32) (x3 : Int32), fX5_lengthOf_L4 now x1 n x2 x3 = some x2_o → ∀ (ls : Array Slot) (H : Heap) (locs : List Loc), lv_has ls 4 [(0, .ref (ad 0)), (1, .int x1), (2, .int x2), (3, .int x3)] → St D A s (wX5 cI ad deeds finding asked upper lower m_at wrong rowSize rows textSize texts spare now draft tried past kept keptPast keptDeeds findings worth) H locs → W p l e rmX5_lengthOf s m AV below meth c H locs 0 0 Q (F0 m 4 ls []) := by
    intro x1 x2_o KE n
    induction n with
    | zero =>
      intro x2 x3 h
      exact nomatch (show none = some _ from h)
    | succ n ih =>
      intro x2 x3 h ls H locs hl hG
      have h : fX5_lengthOf_B4 now x1 (fX5_lengthOf_L4 now x1 n) x2 x3 = some x2_o := h
      have hj_39 : ∀ (x3 : Int32) (k0 : Int32) (k1 : Int32) , fX5_lengthOf_j39 (fX5_lengthOf_L4 now x1 n) now x1 x3 k0 k1 = some x2_o → ∀ (ls : Array Slot) (H : Heap) (locs : List Loc), lv_has ls 4 [(0, .ref (ad 0)), (1, .int x1), (3, .int x3)] → St D A s (wX5 cI ad deeds finding asked upper lower m_at wrong rowSize rows textSize texts spare now draft tried past kept keptPast keptDeeds findings worth) H locs → W p l e rmX5_lengthOf s m AV below meth c H locs 0 0 Q (F0 m 39 ls [.int k1, .int k0]) := by
        intro x3 k0 k1 h ls H locs hl hG
        unfold fX5_lengthOf_j39 at h
        refine lv_iadd hx hb dX5_lengthOf_39 ?_
        refine lv_istore_n (lv' := [(2, .int (k0 + k1)), (0, .ref (ad 0)), (1, .int x1), (3, .int x3)]) hx hb dX5_lengthOf_40 rfl hl (by decide) rfl (fun ls hl => ?_)
        refine lv_iinc (v := (x3 + 1)) (lv' := [(3, .int (x3 + 1)), (2, .int (k0 + k1)), (0, .ref (ad 0)), (1, .int x1)]) hx hb dX5_lengthOf_41 hl (k := 3) rfl rfl (by decide) rfl (fun ls hl => ?_)
        refine lv_goto (tgt := 4) hx hb dX5_lengthOf_44 (by decide) ?_
        exact ih _ _ h _ _ _ (lv_sub hl [2, 3, 1, 0] rfl) hG
      unfold fX5_lengthOf_B4 at h
      refine lv_iload_n hx hb dX5_lengthOf_4 rfl (lv_at hl 3 rfl) ?_
      refine lv_aload_n hx hb dX5_lengthOf_5 rfl (lv_at hl 0 rfl) ?_
      refine x_get hc hG 0 rfl iX5 5 lX5_25 rfl dX5_lengthOf_6 ?_
      refine lv_iconst (v := 1) hx hb dX5_lengthOf_9 (by decide) ?_
      obtain ⟨v10, e10, h⟩ := bd1_some h
      refine x_ald hc hG 6 rfl e10 dX5_lengthOf_10 ?_
      refine lv_icmp_ge (tgt := 47) hx hb dX5_lengthOf_11 (by decide) (fun c11 => ?_) (fun c11 => ?_)
      · rw [if_pos c11] at h
        cases h
        exact KE _ _ _ (lv_sub hl [0, 2] rfl) hG
      · rw [if_neg c11] at h
        refine lv_iload_n hx hb dX5_lengthOf_14 rfl (lv_at hl 2 rfl) ?_
        refine lv_iload_n hx hb dX5_lengthOf_15 rfl (lv_at hl 1 rfl) ?_
        refine lv_iload_n hx hb dX5_lengthOf_16 rfl (lv_at hl 3 rfl) ?_
        obtain ⟨v17, e17, h⟩ := bd1_some h
        refine x_si0 (rest := [.int x2]) hc hG (cc_X5_has x1 x3 v17 e17) lX5_140 ⟨rfl, rfl, by decide, by decide⟩ rfl hl.1 (Nat.le_of_ble_eq_true rfl) rfl dX5_lengthOf_17 (fun H locs hG => ?_)
        refine lv_if_eq (tgt := 38) hx hb dX5_lengthOf_20 (by decide) (fun c20 => ?_) (fun c20 => ?_)
        · rw [if_pos c20] at h
          refine lv_iconst (v := 0) hx hb dX5_lengthOf_38 (by decide) ?_
          exact hj_39 _ _ _ h _ _ _ (lv_sub hl [0, 1, 3] rfl) hG
        · rw [if_neg c20] at h
          refine lv_aload_n hx hb dX5_lengthOf_23 rfl (lv_at hl 0 rfl) ?_
          refine x_get hc hG 0 rfl iX5 5 lX5_25 rfl dX5_lengthOf_24 ?_
          refine lv_iconst (v := 5) hx hb dX5_lengthOf_27 (by decide) ?_
          refine lv_iconst (v := 5) hx hb dX5_lengthOf_28 (by decide) ?_
          refine lv_iload_n hx hb dX5_lengthOf_29 rfl (lv_at hl 3 rfl) ?_
          refine lv_imul hx hb dX5_lengthOf_30 ?_
          refine lv_iadd hx hb dX5_lengthOf_31 ?_
          refine lv_iconst (v := 2) hx hb dX5_lengthOf_32 (by decide) ?_
          refine lv_iadd hx hb dX5_lengthOf_33 ?_
          obtain ⟨v34, e34, h⟩ := bd1_some h
          refine x_ald hc hG 6 rfl e34 dX5_lengthOf_34 ?_
          refine lv_goto (tgt := 39) hx hb dX5_lengthOf_35 (by decide) ?_
          exact hj_39 _ _ _ h _ _ _ (lv_sub hl [0, 1, 3] rfl) hG
  unfold fX5_lengthOf at h
  refine lv_iconst (v := 0) hx hb dX5_lengthOf_0 (by decide) ?_
  refine lv_istore_n (lv' := [(2, .int 0), (0, .ref (ad 0)), (1, .int x1)]) hx hb dX5_lengthOf_1 rfl hl (by decide) rfl (fun ls hl => ?_)
  refine lv_iconst (v := 0) hx hb dX5_lengthOf_2 (by decide) ?_
  refine lv_istore_n (lv' := [(3, .int 0), (2, .int 0), (0, .ref (ad 0)), (1, .int x1)]) hx hb dX5_lengthOf_3 rfl hl (by decide) rfl (fun ls hl => ?_)
  obtain ⟨x2_L4, e4, h⟩ := bd1_some h
  refine hL_4 _ _ (fun ls H locs hl hG => ?_) _ _ _ e4 _ _ _ (lv_sub hl [2, 3, 1, 0] rfl) hG
  refine lv_iload_n hx hb dX5_lengthOf_47 rfl (lv_at hl 1 rfl) ?_
  cases h
  exact hret _ _ _ _ hG dX5_lengthOf_48 rfl
set_option maxRecDepth 100000 in
set_option maxHeartbeats 4000000 in
theorem cc_X5_sets {l : Launch} {D : va_G} {cI : ClassId} {tL : Nat} (ad : Nat → Nat) (deeds : Int32) (finding : Int32) (asked : Int32) (upper : Int64) (lower : Int64) (m_at : Int32) (wrong : Int32) (rowSize : Nat → Int32) (rows : Nat → Int32) (textSize : Nat → Int32) (texts : Nat → Int32) (spare : Nat → Int32) (now : Nat → Int32) (draft : Nat → Int32) (tried : Nat → Int32) (past : Nat → Int32) (kept : Nat → Int32) (keptPast : Nat → Int32) (keptDeeds : Nat → Int32) (findings : Nat → Int32) (worth : Nat → Int32) (x1 : Int32) (r' : Int32) (asked' : Int32) (upper' : Int64) (lower' : Int64) (h : fX5_sets asked upper lower now x1 = some (r', asked', upper', lower')) : Ci l D cI tL yX5_sets cX5_sets 5 .int rmX5_sets (wX5 cI ad deeds finding asked upper lower m_at wrong rowSize rows textSize texts spare now draft tried past kept keptPast keptDeeds findings worth) [.ref (ad 0), .int x1] r' (wX5 cI ad deeds finding asked' upper' lower' m_at wrong rowSize rows textSize texts spare now draft tried past kept keptPast keptDeeds findings worth) := by
  refine Ci_of (own := RX5) (by decide) (Nat.le_of_ble_eq_true rfl) rfl ?_
  intro p e s m below meth c Q A AV hc hret ls hl hG
  obtain ⟨hx, hb, hml, hown, hts, hK, hA, hz⟩ := id hc
  have hl : lv_has ls 5 [(0, .ref (ad 0)), (1, .int x1)] := hl
  have hL_30 : ∀ (x1 : Int32) (asked : Int32) (upper : Int64) (lower : Int64) (x2_o : Int32) (x3_o : Int32), (∀ (ls : Array Slot) (H : Heap) (locs : List Loc), lv_has ls 5 [(0, .ref (ad 0)), (2, .int x2_o), (3, .int x3_o)] → St D A s (wX5 cI ad deeds finding asked upper lower m_at wrong rowSize rows textSize texts spare now draft tried past kept keptPast keptDeeds findings worth) H locs → W p l e rmX5_sets s m AV below meth c H locs 0 0 Q (F0 m 73 ls [])) → ∀ (n : Nat) (x2 : Int32) (x3 : Int32) (x4 : Int32), fX5_sets_L30 now x1 n x2 x3 x4 = some (x2_o, x3_o) → ∀ (ls : Array Slot) (H : Heap) (locs : List Loc), lv_has ls 5 [(0, .ref (ad 0)), (1, .int x1), (2, .int x2), (3, .int x3), (4, .int x4)] → St D A s (wX5 cI ad deeds finding asked upper lower m_at wrong rowSize rows textSize texts spare now draft tried past kept keptPast keptDeeds findings worth) H locs → W p l e rmX5_sets s m AV below meth c H locs 0 0 Q (F0 m 30 ls []) := by
    intro x1 asked upper lower x2_o x3_o KE n
    induction n with
    | zero =>
      intro x2 x3 x4 h
      exact nomatch (show none = some _ from h)
    | succ n ih =>
      intro x2 x3 x4 h ls H locs hl hG
      have h : fX5_sets_B30 now x1 (fX5_sets_L30 now x1 n) x2 x3 x4 = some (x2_o, x3_o) := h
      have hj_67 : ∀ (x2 : Int32) (x3 : Int32) (x4 : Int32) , fX5_sets_j67 (fX5_sets_L30 now x1 n) now x1 x2 x3 x4 = some (x2_o, x3_o) → ∀ (ls : Array Slot) (H : Heap) (locs : List Loc), lv_has ls 5 [(0, .ref (ad 0)), (1, .int x1), (2, .int x2), (3, .int x3), (4, .int x4)] → St D A s (wX5 cI ad deeds finding asked upper lower m_at wrong rowSize rows textSize texts spare now draft tried past kept keptPast keptDeeds findings worth) H locs → W p l e rmX5_sets s m AV below meth c H locs 0 0 Q (F0 m 67 ls []) := by
        intro x2 x3 x4 h ls H locs hl hG
        unfold fX5_sets_j67 at h
        refine lv_iinc (v := (x4 + 1)) (lv' := [(4, .int (x4 + 1)), (0, .ref (ad 0)), (1, .int x1), (2, .int x2), (3, .int x3)]) hx hb dX5_sets_67 hl (k := 4) rfl rfl (by decide) rfl (fun ls hl => ?_)
        refine lv_goto (tgt := 30) hx hb dX5_sets_70 (by decide) ?_
        exact ih _ _ _ h _ _ _ (lv_sub hl [1, 2, 3, 4, 0] rfl) hG
      have hj_63 : ∀ (x2 : Int32) (x4 : Int32) (k0 : Int32) , fX5_sets_j63 (fX5_sets_L30 now x1 n) now x1 x2 x4 k0 = some (x2_o, x3_o) → ∀ (ls : Array Slot) (H : Heap) (locs : List Loc), lv_has ls 5 [(0, .ref (ad 0)), (1, .int x1), (2, .int x2), (4, .int x4)] → St D A s (wX5 cI ad deeds finding asked upper lower m_at wrong rowSize rows textSize texts spare now draft tried past kept keptPast keptDeeds findings worth) H locs → W p l e rmX5_sets s m AV below meth c H locs 0 0 Q (F0 m 63 ls [.int k0]) := by
        intro x2 x4 k0 h ls H locs hl hG
        unfold fX5_sets_j63 at h
        refine lv_istore_n (lv' := [(3, .int k0), (0, .ref (ad 0)), (1, .int x1), (2, .int x2), (4, .int x4)]) hx hb dX5_sets_63 rfl hl (by decide) rfl (fun ls hl => ?_)
        refine lv_iinc (v := (x2 + 1)) (lv' := [(2, .int (x2 + 1)), (3, .int k0), (0, .ref (ad 0)), (1, .int x1), (4, .int x4)]) hx hb dX5_sets_64 hl (k := 3) rfl rfl (by decide) rfl (fun ls hl => ?_)
        exact hj_67 _ _ _ h _ _ _ (lv_sub hl [2, 3, 0, 1, 4] rfl) hG
      unfold fX5_sets_B30 at h
      refine lv_iload hx hb dX5_sets_30 (lv_at hl 4 rfl) ?_
      refine lv_iconst (v := 1) hx hb dX5_sets_32 (by decide) ?_
      refine lv_aload_n hx hb dX5_sets_33 rfl (lv_at hl 0 rfl) ?_
      refine x_get hc hG 0 rfl iX5 5 lX5_25 rfl dX5_sets_34 ?_
      refine lv_iconst (v := 1) hx hb dX5_sets_37 (by decide) ?_
      obtain ⟨v38, e38, h⟩ := bd1_some h
      refine x_ald hc hG 6 rfl e38 dX5_sets_38 ?_
      refine lv_ishl hx hb dX5_sets_39 ?_
      refine lv_icmp_ge (tgt := 73) hx hb dX5_sets_40 (by decide) (fun c40 => ?_) (fun c40 => ?_)
      · rw [if_pos c40] at h
        cases h
        exact KE _ _ _ (lv_sub hl [0, 2, 3] rfl) hG
      · rw [if_neg c40] at h
        refine lv_aload_n hx hb dX5_sets_43 rfl (lv_at hl 0 rfl) ?_
        refine lv_iload hx hb dX5_sets_44 (lv_at hl 4 rfl) ?_
        obtain ⟨v46, e46, h⟩ := bd1_some h
        refine x_vi (rest := []) (ws' := (wX5 cI ad deeds finding asked upper lower m_at wrong rowSize rows textSize texts spare now draft tried past kept keptPast keptDeeds findings worth)) hc hG (cc_X5_lengthOf ad deeds finding asked upper lower m_at wrong rowSize rows textSize texts spare now draft tried past kept keptPast keptDeeds findings worth x4 v46 e46) [0, 1, 2, 3, 4, 5, 6, 7, 8, 9, 10, 11, 12, 13, 14] [] [0, 1, 2, 3, 4, 5, 6, 7, 8, 9, 10, 11, 12, 13, 14] rfl rfl rfl 0 rfl rfl lX5_225 ⟨rfl, rfl, by decide, by decide⟩ rfl hl.1 (Nat.le_of_ble_eq_true rfl) rfl dX5_sets_46 (fun H locs hG => ?_)
        refine lv_iload_n hx hb dX5_sets_49 rfl (lv_at hl 1 rfl) ?_
        refine lv_icmp_ne (tgt := 67) hx hb dX5_sets_50 (by decide) (fun c50 => ?_) (fun c50 => ?_)
        · rw [if_neg c50] at h
          exact hj_67 _ _ _ h _ _ _ (lv_sub hl [0, 1, 2, 3, 4] rfl) hG
        · rw [if_pos c50] at h
          refine lv_iload_n hx hb dX5_sets_53 rfl (lv_at hl 2 rfl) ?_
          refine lv_if_ne (tgt := 62) hx hb dX5_sets_54 (by decide) (fun c54 => ?_) (fun c54 => ?_)
          · rw [if_neg c54] at h
            refine lv_iload_n hx hb dX5_sets_62 rfl (lv_at hl 3 rfl) ?_
            exact hj_63 _ _ _ h _ _ _ (lv_sub hl [0, 1, 2, 4] rfl) hG
          · rw [if_pos c54] at h
            refine lv_iload hx hb dX5_sets_57 (lv_at hl 4 rfl) ?_
            refine lv_goto (tgt := 63) hx hb dX5_sets_59 (by decide) ?_
            exact hj_63 _ _ _ h _ _ _ (lv_sub hl [0, 1, 2, 4] rfl) hG
  unfold fX5_sets at h
  refine lv_iload_n hx hb dX5_sets_0 rfl (lv_at hl 1 rfl) ?_
  refine lv_iconst (v := 0) hx hb dX5_sets_1 (by decide) ?_
  refine lv_bipush (v := 24) hx hb dX5_sets_2 (by decide) ?_
  obtain ⟨v4, e4, h⟩ := bd1_some h
  refine x_si0 (rest := []) hc hG (cc_X5_in0 x1 0 24 v4 e4) lX5_63 ⟨rfl, rfl, by decide, by decide⟩ rfl hl.1 (Nat.le_of_ble_eq_true rfl) rfl dX5_sets_4 (fun H locs hG => ?_)
  refine lv_if_ne (tgt := 12) hx hb dX5_sets_7 (by decide) (fun c7 => ?_) (fun c7 => ?_)
  · rw [if_neg c7] at h
    refine lv_aload_n hx hb dX5_sets_12 rfl (lv_at hl 0 rfl) ?_
    obtain ⟨v13, e13, h⟩ := bd1_some h
    refine x_vi (rest := []) (ws' := (wX5 cI ad deeds finding asked upper lower m_at wrong rowSize rows textSize texts spare now draft tried past kept keptPast keptDeeds findings worth)) hc hG (cc_X5_isAny ad deeds finding asked upper lower m_at wrong rowSize rows textSize texts spare now draft tried past kept keptPast keptDeeds findings worth v13 e13) [0, 1, 2, 3, 4, 5, 6, 7, 8, 9, 10, 11, 12, 13, 14] [] [0, 1, 2, 3, 4, 5, 6, 7, 8, 9, 10, 11, 12, 13, 14] rfl rfl rfl 0 rfl rfl lX5_186 ⟨rfl, rfl, by decide, by decide⟩ rfl hl.1 (Nat.le_of_ble_eq_true rfl) rfl dX5_sets_13 (fun H locs hG => ?_)
    refine lv_if_ne (tgt := 22) hx hb dX5_sets_16 (by decide) (fun c16 => ?_) (fun c16 => ?_)
    · rw [if_neg c16] at h
      refine lv_iconst (v := 0) hx hb dX5_sets_22 (by decide) ?_
      refine lv_istore_n (lv' := [(2, .int 0), (0, .ref (ad 0)), (1, .int x1)]) hx hb dX5_sets_23 rfl hl (by decide) rfl (fun ls hl => ?_)
      refine lv_bipush (v := (-9)) hx hb dX5_sets_24 (by decide) ?_
      refine lv_istore_n (lv' := [(3, .int (-9)), (2, .int 0), (0, .ref (ad 0)), (1, .int x1)]) hx hb dX5_sets_26 rfl hl (by decide) rfl (fun ls hl => ?_)
      refine lv_iconst (v := 0) hx hb dX5_sets_27 (by decide) ?_
      refine lv_istore (lv' := [(4, .int 0), (3, .int (-9)), (2, .int 0), (0, .ref (ad 0)), (1, .int x1)]) hx hb dX5_sets_28 hl (by decide) rfl (fun ls hl => ?_)
      obtain ⟨x2_L30, x3_L30, e30, h⟩ := bd2_some h
      refine hL_30 _ _ _ _ _ _ (fun ls H locs hl hG => ?_) _ _ _ _ e30 _ _ _ (lv_sub hl [3, 4, 2, 1, 0] rfl) hG
      refine lv_aload_n hx hb dX5_sets_73 rfl (lv_at hl 0 rfl) ?_
      refine lv_iload_n hx hb dX5_sets_74 rfl (lv_at hl 1 rfl) ?_
      refine lv_i2l hx hb dX5_sets_75 rfl ?_
      refine x_put (ws' := (wX5 cI ad deeds finding asked (Int32.toInt64 x2_L30) lower m_at wrong rowSize rows textSize texts spare now draft tried past kept keptPast keptDeeds findings worth)) hc hG 0 rfl iX5 tyX5 tyX5_ok nmX5 16 lX5_215 rfl rfl rfl (Nat.le_of_ble_eq_true rfl) rfl dX5_sets_76 (fun H locs hG => ?_)
      refine lv_aload_n hx hb dX5_sets_79 rfl (lv_at hl 0 rfl) ?_
      refine lv_lconst (v := 1) hx hb dX5_sets_80 (by decide) ?_
      refine x_put (ws' := (wX5 cI ad deeds finding asked (Int32.toInt64 x2_L30) 1 m_at wrong rowSize rows textSize texts spare now draft tried past kept keptPast keptDeeds findings worth)) hc hG 0 rfl iX5 tyX5 tyX5_ok nmX5 17 lX5_49 rfl rfl rfl (Nat.le_of_ble_eq_true rfl) rfl dX5_sets_81 (fun H locs hG => ?_)
      refine lv_aload_n hx hb dX5_sets_84 rfl (lv_at hl 0 rfl) ?_
      refine lv_iload_n hx hb dX5_sets_85 rfl (lv_at hl 2 rfl) ?_
      obtain ⟨v86, asked_86, e86, h⟩ := bd2_some h
      refine x_vi (rest := []) (ws' := (wX5 cI ad deeds finding asked_86 (Int32.toInt64 x2_L30) 1 m_at wrong rowSize rows textSize texts spare now draft tried past kept keptPast keptDeeds findings worth)) hc hG (cc_X5_tells ad deeds finding asked (Int32.toInt64 x2_L30) 1 m_at wrong rowSize rows textSize texts spare now draft tried past kept keptPast keptDeeds findings worth x3_L30 v86 asked_86 e86) [0, 1, 2, 3, 4, 5, 6, 7, 8, 9, 10, 11, 12, 13, 14] [] [0, 1, 2, 3, 4, 5, 6, 7, 8, 9, 10, 11, 12, 13, 14] rfl rfl rfl 0 rfl rfl lX5_75 ⟨rfl, rfl, by decide, by decide⟩ rfl hl.1 (Nat.le_of_ble_eq_true rfl) rfl dX5_sets_86 (fun H locs hG => ?_)
      cases h
      exact hret _ _ _ _ hG dX5_sets_89 rfl
    · rw [if_pos c16] at h
      refine lv_bipush (v := (-4)) hx hb dX5_sets_19 (by decide) ?_
      cases h
      exact hret _ _ _ _ hG dX5_sets_21 rfl
  · rw [if_pos c7] at h
    refine lv_iconst (v := (-1)) hx hb dX5_sets_10 (by decide) ?_
    cases h
    exact hret _ _ _ _ hG dX5_sets_11 rfl
set_option maxRecDepth 100000 in
set_option maxHeartbeats 4000000 in
theorem cc_X5_surely {l : Launch} {D : va_G} {cI : ClassId} {tL : Nat} (ad : Nat → Nat) (deeds : Int32) (finding : Int32) (asked : Int32) (upper : Int64) (lower : Int64) (m_at : Int32) (wrong : Int32) (rowSize : Nat → Int32) (rows : Nat → Int32) (textSize : Nat → Int32) (texts : Nat → Int32) (spare : Nat → Int32) (now : Nat → Int32) (draft : Nat → Int32) (tried : Nat → Int32) (past : Nat → Int32) (kept : Nat → Int32) (keptPast : Nat → Int32) (keptDeeds : Nat → Int32) (findings : Nat → Int32) (worth : Nat → Int32) (x1 : Int32) (r' : Int32) (finding' : Int32) (asked' : Int32) (findings' : Nat → Int32) (h : fX5_surely finding asked now findings x1 = some (r', finding', asked', findings')) : Ci l D cI tL yX5_surely cX5_surely 7 .int rmX5_surely (wX5 cI ad deeds finding asked upper lower m_at wrong rowSize rows textSize texts spare now draft tried past kept keptPast keptDeeds findings worth) [.ref (ad 0), .int x1] r' (wX5 cI ad deeds finding' asked' upper lower m_at wrong rowSize rows textSize texts spare now draft tried past kept keptPast keptDeeds findings' worth) := by
  refine Ci_of (own := RX5) (by decide) (Nat.le_of_ble_eq_true rfl) rfl ?_
  intro p e s m below meth c Q A AV hc hret ls hl hG
  obtain ⟨hx, hb, hml, hown, hts, hK, hA, hz⟩ := id hc
  have hl : lv_has ls 7 [(0, .ref (ad 0)), (1, .int x1)] := hl
  have hL_44 : ∀ (x1 : Int32) (x2 : Int32) (finding : Int32) (asked : Int32) (findings : Nat → Int32) (x3_o : Int32) (x4_o : Int32) (x5_o : Int32), (∀ (ls : Array Slot) (H : Heap) (locs : List Loc), lv_has ls 7 [(0, .ref (ad 0)), (2, .int x2), (3, .int x3_o), (4, .int x4_o), (5, .int x5_o)] → St D A s (wX5 cI ad deeds finding asked upper lower m_at wrong rowSize rows textSize texts spare now draft tried past kept keptPast keptDeeds findings worth) H locs → W p l e rmX5_surely s m AV below meth c H locs 0 0 Q (F0 m 81 ls [])) → ∀ (n : Nat) (x3 : Int32) (x4 : Int32) (x5 : Int32) (x6 : Int32), fX5_surely_L44 now x1 x2 n x3 x4 x5 x6 = some (x3_o, x4_o, x5_o) → ∀ (ls : Array Slot) (H : Heap) (locs : List Loc), lv_has ls 7 [(0, .ref (ad 0)), (1, .int x1), (2, .int x2), (3, .int x3), (4, .int x4), (5, .int x5), (6, .int x6)] → St D A s (wX5 cI ad deeds finding asked upper lower m_at wrong rowSize rows textSize texts spare now draft tried past kept keptPast keptDeeds findings worth) H locs → W p l e rmX5_surely s m AV below meth c H locs 0 0 Q (F0 m 44 ls []) := by
    intro x1 x2 finding asked findings x3_o x4_o x5_o KE n
    induction n with
    | zero =>
      intro x3 x4 x5 x6 h
      exact nomatch (show none = some _ from h)
    | succ n ih =>
      intro x3 x4 x5 x6 h ls H locs hl hG
      have h : fX5_surely_B44 now x1 x2 (fX5_surely_L44 now x1 x2 n) x3 x4 x5 x6 = some (x3_o, x4_o, x5_o) := h
      have hj_75 : ∀ (x3 : Int32) (x4 : Int32) (x5 : Int32) (x6 : Int32) , fX5_surely_j75 (fX5_surely_L44 now x1 x2 n) now x1 x2 x3 x4 x5 x6 = some (x3_o, x4_o, x5_o) → ∀ (ls : Array Slot) (H : Heap) (locs : List Loc), lv_has ls 7 [(0, .ref (ad 0)), (1, .int x1), (2, .int x2), (3, .int x3), (4, .int x4), (5, .int x5), (6, .int x6)] → St D A s (wX5 cI ad deeds finding asked upper lower m_at wrong rowSize rows textSize texts spare now draft tried past kept keptPast keptDeeds findings worth) H locs → W p l e rmX5_surely s m AV below meth c H locs 0 0 Q (F0 m 75 ls []) := by
        intro x3 x4 x5 x6 h ls H locs hl hG
        unfold fX5_surely_j75 at h
        refine lv_iinc (v := (x6 + 1)) (lv' := [(6, .int (x6 + 1)), (0, .ref (ad 0)), (1, .int x1), (2, .int x2), (3, .int x3), (4, .int x4), (5, .int x5)]) hx hb dX5_surely_75 hl (k := 6) rfl rfl (by decide) rfl (fun ls hl => ?_)
        refine lv_goto (tgt := 44) hx hb dX5_surely_78 (by decide) ?_
        exact ih _ _ _ _ h _ _ _ (lv_sub hl [1, 2, 3, 4, 5, 6, 0] rfl) hG
      unfold fX5_surely_B44 at h
      refine lv_iload hx hb dX5_surely_44 (lv_at hl 6 rfl) ?_
      refine lv_iload_n hx hb dX5_surely_46 rfl (lv_at hl 2 rfl) ?_
      refine lv_icmp_gt (tgt := 81) hx hb dX5_surely_47 (by decide) (fun c47 => ?_) (fun c47 => ?_)
      · rw [if_pos c47] at h
        cases h
        exact KE _ _ _ (lv_sub hl [0, 2, 3, 4, 5] rfl) hG
      · rw [if_neg c47] at h
        refine lv_aload_n hx hb dX5_surely_50 rfl (lv_at hl 0 rfl) ?_
        refine lv_iload hx hb dX5_surely_51 (lv_at hl 6 rfl) ?_
        obtain ⟨v53, e53, h⟩ := bd1_some h
        refine x_vi (rest := []) (ws' := (wX5 cI ad deeds finding asked upper lower m_at wrong rowSize rows textSize texts spare now draft tried past kept keptPast keptDeeds findings worth)) hc hG (cc_X5_lengthOf ad deeds finding asked upper lower m_at wrong rowSize rows textSize texts spare now draft tried past kept keptPast keptDeeds findings worth x6 v53 e53) [0, 1, 2, 3, 4, 5, 6, 7, 8, 9, 10, 11, 12, 13, 14] [] [0, 1, 2, 3, 4, 5, 6, 7, 8, 9, 10, 11, 12, 13, 14] rfl rfl rfl 0 rfl rfl lX5_225 ⟨rfl, rfl, by decide, by decide⟩ rfl hl.1 (Nat.le_of_ble_eq_true rfl) rfl dX5_surely_53 (fun H locs hG => ?_)
        refine lv_iload_n hx hb dX5_surely_56 rfl (lv_at hl 1 rfl) ?_
        refine lv_icmp_ne (tgt := 75) hx hb dX5_surely_57 (by decide) (fun c57 => ?_) (fun c57 => ?_)
        · rw [if_neg c57] at h
          exact hj_75 _ _ _ _ h _ _ _ (lv_sub hl [0, 1, 2, 3, 4, 5, 6] rfl) hG
        · rw [if_pos c57] at h
          refine lv_iload_n hx hb dX5_surely_60 rfl (lv_at hl 3 rfl) ?_
          refine lv_iload hx hb dX5_surely_61 (lv_at hl 6 rfl) ?_
          refine lv_iand hx hb dX5_surely_63 ?_
          refine lv_istore_n (lv' := [(3, .int (x3 &&& x6)), (0, .ref (ad 0)), (1, .int x1), (2, .int x2), (4, .int x4), (5, .int x5), (6, .int x6)]) hx hb dX5_surely_64 rfl hl (by decide) rfl (fun ls hl => ?_)
          refine lv_iload hx hb dX5_surely_65 (lv_at hl 4 rfl) ?_
          refine lv_iload hx hb dX5_surely_67 (lv_at hl 6 rfl) ?_
          refine lv_ior hx hb dX5_surely_69 ?_
          refine lv_istore (lv' := [(4, .int (x4 ||| x6)), (3, .int (x3 &&& x6)), (0, .ref (ad 0)), (1, .int x1), (2, .int x2), (5, .int x5), (6, .int x6)]) hx hb dX5_surely_70 hl (by decide) rfl (fun ls hl => ?_)
          refine lv_iinc (v := (x5 + 1)) (lv' := [(5, .int (x5 + 1)), (4, .int (x4 ||| x6)), (3, .int (x3 &&& x6)), (0, .ref (ad 0)), (1, .int x1), (2, .int x2), (6, .int x6)]) hx hb dX5_surely_72 hl (k := 5) rfl rfl (by decide) rfl (fun ls hl => ?_)
          exact hj_75 _ _ _ _ h _ _ _ (lv_sub hl [3, 4, 5, 2, 1, 0, 6] rfl) hG
  unfold fX5_surely at h
  refine lv_iload_n hx hb dX5_surely_0 rfl (lv_at hl 1 rfl) ?_
  refine lv_iconst (v := 0) hx hb dX5_surely_1 (by decide) ?_
  refine lv_bipush (v := 24) hx hb dX5_surely_2 (by decide) ?_
  obtain ⟨v4, e4, h⟩ := bd1_some h
  refine x_si0 (rest := []) hc hG (cc_X5_in0 x1 0 24 v4 e4) lX5_63 ⟨rfl, rfl, by decide, by decide⟩ rfl hl.1 (Nat.le_of_ble_eq_true rfl) rfl dX5_surely_4 (fun H locs hG => ?_)
  refine lv_if_ne (tgt := 12) hx hb dX5_surely_7 (by decide) (fun c7 => ?_) (fun c7 => ?_)
  · rw [if_neg c7] at h
    refine lv_aload_n hx hb dX5_surely_12 rfl (lv_at hl 0 rfl) ?_
    obtain ⟨v13, e13, h⟩ := bd1_some h
    refine x_vi (rest := []) (ws' := (wX5 cI ad deeds finding asked upper lower m_at wrong rowSize rows textSize texts spare now draft tried past kept keptPast keptDeeds findings worth)) hc hG (cc_X5_isAny ad deeds finding asked upper lower m_at wrong rowSize rows textSize texts spare now draft tried past kept keptPast keptDeeds findings worth v13 e13) [0, 1, 2, 3, 4, 5, 6, 7, 8, 9, 10, 11, 12, 13, 14] [] [0, 1, 2, 3, 4, 5, 6, 7, 8, 9, 10, 11, 12, 13, 14] rfl rfl rfl 0 rfl rfl lX5_186 ⟨rfl, rfl, by decide, by decide⟩ rfl hl.1 (Nat.le_of_ble_eq_true rfl) rfl dX5_surely_13 (fun H locs hG => ?_)
    refine lv_if_ne (tgt := 22) hx hb dX5_surely_16 (by decide) (fun c16 => ?_) (fun c16 => ?_)
    · rw [if_neg c16] at h
      refine lv_iconst (v := 1) hx hb dX5_surely_22 (by decide) ?_
      refine lv_aload_n hx hb dX5_surely_23 rfl (lv_at hl 0 rfl) ?_
      refine x_get hc hG 0 rfl iX5 5 lX5_25 rfl dX5_surely_24 ?_
      refine lv_iconst (v := 1) hx hb dX5_surely_27 (by decide) ?_
      obtain ⟨v28, e28, h⟩ := bd1_some h
      refine x_ald hc hG 6 rfl e28 dX5_surely_28 ?_
      refine lv_ishl hx hb dX5_surely_29 ?_
      refine lv_iconst (v := 1) hx hb dX5_surely_30 (by decide) ?_
      refine lv_isub hx hb dX5_surely_31 ?_
      refine lv_istore_n (lv' := [(2, .int (((1 : Int32) <<< (v28 &&& 31)) - 1)), (0, .ref (ad 0)), (1, .int x1)]) hx hb dX5_surely_32 rfl hl (by decide) rfl (fun ls hl => ?_)
      refine lv_iload_n hx hb dX5_surely_33 rfl (lv_at hl 0 rfl) ?_
      refine lv_istore_n (lv' := [(3, .int (((1 : Int32) <<< (v28 &&& 31)) - 1)), (2, .int (((1 : Int32) <<< (v28 &&& 31)) - 1)), (0, .ref (ad 0)), (1, .int x1)]) hx hb dX5_surely_34 rfl hl (by decide) rfl (fun ls hl => ?_)
      refine lv_iconst (v := 0) hx hb dX5_surely_35 (by decide) ?_
      refine lv_istore (lv' := [(4, .int 0), (3, .int (((1 : Int32) <<< (v28 &&& 31)) - 1)), (2, .int (((1 : Int32) <<< (v28 &&& 31)) - 1)), (0, .ref (ad 0)), (1, .int x1)]) hx hb dX5_surely_36 hl (by decide) rfl (fun ls hl => ?_)
      refine lv_iconst (v := 0) hx hb dX5_surely_38 (by decide) ?_
      refine lv_istore (lv' := [(5, .int 0), (4, .int 0), (3, .int (((1 : Int32) <<< (v28 &&& 31)) - 1)), (2, .int (((1 : Int32) <<< (v28 &&& 31)) - 1)), (0, .ref (ad 0)), (1, .int x1)]) hx hb dX5_surely_39 hl (by decide) rfl (fun ls hl => ?_)
      refine lv_iconst (v := 0) hx hb dX5_surely_41 (by decide) ?_
      refine lv_istore (lv' := [(6, .int 0), (5, .int 0), (4, .int 0), (3, .int (((1 : Int32) <<< (v28 &&& 31)) - 1)), (2, .int (((1 : Int32) <<< (v28 &&& 31)) - 1)), (0, .ref (ad 0)), (1, .int x1)]) hx hb dX5_surely_42 hl (by decide) rfl (fun ls hl => ?_)
      obtain ⟨x3_L44, x4_L44, x5_L44, e44, h⟩ := bd3_some h
      refine hL_44 _ _ _ _ _ _ _ _ (fun ls H locs hl hG => ?_) _ _ _ _ _ e44 _ _ _ (lv_sub hl [5, 6, 4, 3, 2, 1, 0] rfl) hG
      refine lv_iload hx hb dX5_surely_81 (lv_at hl 4 rfl) ?_
      refine lv_if_ne (tgt := 92) hx hb dX5_surely_83 (by decide) (fun c83 => ?_) (fun c83 => ?_)
      · rw [if_neg c83] at h
        refine lv_aload_n hx hb dX5_surely_92 rfl (lv_at hl 0 rfl) ?_
        refine lv_iload_n hx hb dX5_surely_93 rfl (lv_at hl 1 rfl) ?_
        refine lv_iload hx hb dX5_surely_94 (lv_at hl 3 rfl) ?_
        refine lv_iconst (v := (-1)) hx hb dX5_surely_96 (by decide) ?_
        refine lv_ixor hx hb dX5_surely_97 ?_
        refine lv_iand hx hb dX5_surely_98 ?_
        obtain ⟨v99, asked_99, e99, h⟩ := bd2_some h
        refine x_vi (rest := []) (ws' := (wX5 cI ad deeds finding asked_99 upper lower m_at wrong rowSize rows textSize texts spare now draft tried past kept keptPast keptDeeds findings worth)) hc hG (cc_X5_tells ad deeds finding asked upper lower m_at wrong rowSize rows textSize texts spare now draft tried past kept keptPast keptDeeds findings worth ((((1 : Int32) <<< (v28 &&& 31)) - 1) &&& (x4_L44 ^^^ (-1))) v99 asked_99 e99) [0, 1, 2, 3, 4, 5, 6, 7, 8, 9, 10, 11, 12, 13, 14] [] [0, 1, 2, 3, 4, 5, 6, 7, 8, 9, 10, 11, 12, 13, 14] rfl rfl rfl 0 rfl rfl lX5_75 ⟨rfl, rfl, by decide, by decide⟩ rfl hl.1 (Nat.le_of_ble_eq_true rfl) rfl dX5_surely_99 (fun H locs hG => ?_)
        refine lv_pop hx hb dX5_surely_102 rfl ?_
        refine lv_iload_n hx hb dX5_surely_103 rfl (lv_at hl 2 rfl) ?_
        cases h
        exact hret _ _ _ _ hG dX5_surely_104 rfl
      · rw [if_pos c83] at h
        refine lv_aload_n hx hb dX5_surely_86 rfl (lv_at hl 0 rfl) ?_
        refine lv_iconst (v := 4) hx hb dX5_surely_87 (by decide) ?_
        obtain ⟨v88, finding_88, findings_88, e88, h⟩ := bd3_some h
        refine x_vi (rest := []) (ws' := (wX5 cI ad deeds finding_88 asked upper lower m_at wrong rowSize rows textSize texts spare now draft tried past kept keptPast keptDeeds findings_88 worth)) hc hG (cc_X5_found0 ad deeds finding asked upper lower m_at wrong rowSize rows textSize texts spare now draft tried past kept keptPast keptDeeds findings worth 4 v88 finding_88 findings_88 e88) [0, 1, 2, 3, 4, 5, 6, 7, 8, 9, 10, 11, 12, 13, 14] [] [0, 1, 2, 3, 4, 5, 6, 7, 8, 9, 10, 11, 12, 13, 14] rfl rfl rfl 0 rfl rfl lX5_71 ⟨rfl, rfl, by decide, by decide⟩ rfl hl.1 (Nat.le_of_ble_eq_true rfl) rfl dX5_surely_88 (fun H locs hG => ?_)
        cases h
        exact hret _ _ _ _ hG dX5_surely_91 rfl
    · rw [if_pos c16] at h
      refine lv_bipush (v := (-4)) hx hb dX5_surely_19 (by decide) ?_
      cases h
      exact hret _ _ _ _ hG dX5_surely_21 rfl
  · rw [if_pos c7] at h
    refine lv_iconst (v := (-1)) hx hb dX5_surely_10 (by decide) ?_
    cases h
    exact hret _ _ _ _ hG dX5_surely_11 rfl
set_option maxRecDepth 100000 in
set_option maxHeartbeats 4000000 in
theorem cc_X5_comes {l : Launch} {D : va_G} {cI : ClassId} {tL : Nat} (ad : Nat → Nat) (deeds : Int32) (finding : Int32) (asked : Int32) (upper : Int64) (lower : Int64) (m_at : Int32) (wrong : Int32) (rowSize : Nat → Int32) (rows : Nat → Int32) (textSize : Nat → Int32) (texts : Nat → Int32) (spare : Nat → Int32) (now : Nat → Int32) (draft : Nat → Int32) (tried : Nat → Int32) (past : Nat → Int32) (kept : Nat → Int32) (keptPast : Nat → Int32) (keptDeeds : Nat → Int32) (findings : Nat → Int32) (worth : Nat → Int32) (x1 : Int32) (x2 : Int32) (r' : Int32) (tried' : Nat → Int32) (h : fX5_comes now tried x1 x2 = some (r', tried')) : Ci l D cI tL yX5_comes cX5_comes 6 .int rmX5_comes (wX5 cI ad deeds finding asked upper lower m_at wrong rowSize rows textSize texts spare now draft tried past kept keptPast keptDeeds findings worth) [.ref (ad 0), .int x1, .int x2] r' (wX5 cI ad deeds finding asked upper lower m_at wrong rowSize rows textSize texts spare now draft tried' past kept keptPast keptDeeds findings worth) := by
  refine Ci_of (own := RX5) (by decide) (Nat.le_of_ble_eq_true rfl) rfl ?_
  intro p e s m below meth c Q A AV hc hret ls hl hG
  obtain ⟨hx, hb, hml, hown, hts, hK, hA, hz⟩ := id hc
  have hl : lv_has ls 6 [(0, .ref (ad 0)), (1, .int x1), (2, .int x2)] := hl
  have hL_30 : ∀ (x3 : Int32) (tried : Nat → Int32) (x1 : Int32) (x2 : Int32) (x4_o : Int32), (∀ (ls : Array Slot) (H : Heap) (locs : List Loc), lv_has ls 6 [(0, .ref (ad 0)), (1, .int x1), (2, .int x2), (3, .int x3), (4, .int x4_o)] → St D A s (wX5 cI ad deeds finding asked upper lower m_at wrong rowSize rows textSize texts spare now draft tried past kept keptPast keptDeeds findings worth) H locs → W p l e rmX5_comes s m AV below meth c H locs 0 0 Q (F0 m 49 ls [])) → ∀ (n : Nat) (x4 : Int32) (x5 : Int32), fX5_comes_L30 x3 n x4 x5 = some x4_o → ∀ (ls : Array Slot) (H : Heap) (locs : List Loc), lv_has ls 6 [(0, .ref (ad 0)), (1, .int x1), (2, .int x2), (3, .int x3), (4, .int x4), (5, .int x5)] → St D A s (wX5 cI ad deeds finding asked upper lower m_at wrong rowSize rows textSize texts spare now draft tried past kept keptPast keptDeeds findings worth) H locs → W p l e rmX5_comes s m AV below meth c H locs 0 0 Q (F0 m 30 ls []) := by
    intro x3 tried x1 x2 x4_o KE n
    induction n with
    | zero =>
      intro x4 x5 h
      exact nomatch (show none = some _ from h)
    | succ n ih =>
      intro x4 x5 h ls H locs hl hG
      have h : fX5_comes_B30 x3 (fX5_comes_L30 x3 n) x4 x5 = some x4_o := h
      unfold fX5_comes_B30 at h
      refine lv_iload hx hb dX5_comes_30 (lv_at hl 5 rfl) ?_
      refine lv_iload_n hx hb dX5_comes_32 rfl (lv_at hl 3 rfl) ?_
      refine lv_icmp_le (tgt := 49) hx hb dX5_comes_33 (by decide) (fun c33 => ?_) (fun c33 => ?_)
      · rw [if_pos c33] at h
        cases h
        exact KE _ _ _ (lv_sub hl [0, 1, 2, 3, 4] rfl) hG
      · rw [if_neg c33] at h
        refine lv_iload hx hb dX5_comes_36 (lv_at hl 4 rfl) ?_
        refine lv_bipush (v := 7) hx hb dX5_comes_38 (by decide) ?_
        refine lv_idiv hx hb dX5_comes_40 (by decide) ?_
        refine lv_istore (lv' := [(4, .int (x4 / 7)), (0, .ref (ad 0)), (1, .int x1), (2, .int x2), (3, .int x3), (5, .int x5)]) hx hb dX5_comes_41 hl (by decide) rfl (fun ls hl => ?_)
        refine lv_iinc (v := (x5 + (-1))) (lv' := [(5, .int (x5 + (-1))), (4, .int (x4 / 7)), (0, .ref (ad 0)), (1, .int x1), (2, .int x2), (3, .int x3)]) hx hb dX5_comes_43 hl (k := 5) rfl rfl (by decide) rfl (fun ls hl => ?_)
        refine lv_goto (tgt := 30) hx hb dX5_comes_46 (by decide) ?_
        exact ih _ _ h _ _ _ (lv_sub hl [2, 3, 4, 5, 1, 0] rfl) hG
  have hL_17 : ∀ (x1 : Int32) (x2 : Int32) (o : ((Int32 × (Nat → Int32)) ⊕ (Nat → Int32))), (∀ (r : Int32) (tried_r : Nat → Int32), o = .inl (r, tried_r) → ∀ (H : Heap) (locs : List Loc) (pc : Nat) (ls : Array Slot), St D A s (wX5 cI ad deeds finding asked upper lower m_at wrong rowSize rows textSize texts spare now draft tried_r past kept keptPast keptDeeds findings worth) H locs → decode cX5_comes pc = .ok (.ireturn, 1) → narrow .int (.int r) = .int r → W p l e rmX5_comes s m AV below meth c H locs 0 0 Q (F0 m pc ls [.int r])) → (∀ (tried_o : Nat → Int32), o = .inr tried_o → ∀ (ls : Array Slot) (H : Heap) (locs : List Loc), lv_has ls 6 [(0, .ref (ad 0))] → St D A s (wX5 cI ad deeds finding asked upper lower m_at wrong rowSize rows textSize texts spare now draft tried_o past kept keptPast keptDeeds findings worth) H locs → W p l e rmX5_comes s m AV below meth c H locs 0 0 Q (F0 m 125 ls [])) → ∀ (n : Nat) (tried : Nat → Int32) (x3 : Int32), fX5_comes_L17 now x1 x2 n tried x3 = some o → ∀ (ls : Array Slot) (H : Heap) (locs : List Loc), lv_has ls 6 [(0, .ref (ad 0)), (1, .int x1), (2, .int x2), (3, .int x3)] → St D A s (wX5 cI ad deeds finding asked upper lower m_at wrong rowSize rows textSize texts spare now draft tried past kept keptPast keptDeeds findings worth) H locs → W p l e rmX5_comes s m AV below meth c H locs 0 0 Q (F0 m 17 ls []) := by
    intro x1 x2 o KR KE n
    induction n with
    | zero =>
      intro tried x3 h
      exact nomatch (show none = some _ from h)
    | succ n ih =>
      intro tried x3 h ls H locs hl hG
      have h : fX5_comes_B17 now x1 x2 (fX5_comes_L17 now x1 x2 n) tried x3 = some o := h
      have hj_119 : ∀ (tried : Nat → Int32) (x3 : Int32) , fX5_comes_j119 (fX5_comes_L17 now x1 x2 n) now tried x1 x2 x3 = some o → ∀ (ls : Array Slot) (H : Heap) (locs : List Loc), lv_has ls 6 [(0, .ref (ad 0)), (1, .int x1), (2, .int x2), (3, .int x3)] → St D A s (wX5 cI ad deeds finding asked upper lower m_at wrong rowSize rows textSize texts spare now draft tried past kept keptPast keptDeeds findings worth) H locs → W p l e rmX5_comes s m AV below meth c H locs 0 0 Q (F0 m 119 ls []) := by
        intro tried x3 h ls H locs hl hG
        unfold fX5_comes_j119 at h
        refine lv_iinc (v := (x3 + 1)) (lv' := [(3, .int (x3 + 1)), (0, .ref (ad 0)), (1, .int x1), (2, .int x2)]) hx hb dX5_comes_119 hl (k := 3) rfl rfl (by decide) rfl (fun ls hl => ?_)
        refine lv_goto (tgt := 17) hx hb dX5_comes_122 (by decide) ?_
        exact ih _ _ h _ _ _ (lv_sub hl [1, 2, 3, 0] rfl) hG
      have hj_96 : ∀ (tried : Nat → Int32) (x3 : Int32) (x5 : Int32) , fX5_comes_j96 (fX5_comes_L17 now x1 x2 n) now tried x1 x2 x3 x5 = some o → ∀ (ls : Array Slot) (H : Heap) (locs : List Loc), lv_has ls 6 [(0, .ref (ad 0)), (1, .int x1), (2, .int x2), (3, .int x3), (5, .int x5)] → St D A s (wX5 cI ad deeds finding asked upper lower m_at wrong rowSize rows textSize texts spare now draft tried past kept keptPast keptDeeds findings worth) H locs → W p l e rmX5_comes s m AV below meth c H locs 0 0 Q (F0 m 96 ls []) := by
        intro tried x3 x5 h ls H locs hl hG
        unfold fX5_comes_j96 at h
        refine lv_iload hx hb dX5_comes_96 (lv_at hl 4 rfl) ?_
        refine lv_if_lt (tgt := 119) hx hb dX5_comes_98 (by decide) (fun c98 => ?_) (fun c98 => ?_)
        · rw [if_pos c98] at h
          exact hj_119 _ _ h _ _ _ (lv_sub hl [0, 1, 2, 3] rfl) hG
        · rw [if_neg c98] at h
          refine lv_aload_n hx hb dX5_comes_101 rfl (lv_at hl 0 rfl) ?_
          refine x_get hc hG 0 rfl iX5 7 lX5_31 rfl dX5_comes_102 ?_
          refine lv_iconst (v := 5) hx hb dX5_comes_105 (by decide) ?_
          refine lv_iconst (v := 5) hx hb dX5_comes_106 (by decide) ?_
          refine lv_iload hx hb dX5_comes_107 (lv_at hl 4 rfl) ?_
          refine lv_imul hx hb dX5_comes_109 ?_
          refine lv_iadd hx hb dX5_comes_110 ?_
          refine lv_iconst (v := 4) hx hb dX5_comes_111 (by decide) ?_
          refine lv_iadd hx hb dX5_comes_112 ?_
          refine lv_iconst (v := 1) hx hb dX5_comes_113 (by decide) ?_
          refine lv_iload_n hx hb dX5_comes_114 rfl (lv_at hl 3 rfl) ?_
          refine lv_iconst (v := 2) hx hb dX5_comes_115 (by decide) ?_
          refine lv_irem hx hb dX5_comes_116 (by decide) ?_
          refine lv_isub hx hb dX5_comes_117 ?_
          obtain ⟨tried_118, e118, h⟩ := bd1_some h
          refine x_ast (ws' := (wX5 cI ad deeds finding asked upper lower m_at wrong rowSize rows textSize texts spare now draft tried_118 past kept keptPast keptDeeds findings worth)) hc hG 8 rfl e118 rfl dX5_comes_118 (fun H locs hG => ?_)
          exact hj_119 _ _ h _ _ _ (lv_sub hl [0, 1, 2, 3] rfl) hG
      unfold fX5_comes_B17 at h
      refine lv_iload_n hx hb dX5_comes_17 rfl (lv_at hl 3 rfl) ?_
      refine lv_iload_n hx hb dX5_comes_18 rfl (lv_at hl 2 rfl) ?_
      refine lv_icmp_ge (tgt := 125) hx hb dX5_comes_19 (by decide) (fun c19 => ?_) (fun c19 => ?_)
      · rw [if_pos c19] at h
        cases h
        exact KE _ rfl _ _ _ (lv_sub hl [0] rfl) hG
      · rw [if_neg c19] at h
        refine lv_iload_n hx hb dX5_comes_22 rfl (lv_at hl 1 rfl) ?_
        refine lv_istore (lv' := [(4, .int x1), (0, .ref (ad 0)), (1, .int x1), (2, .int x2), (3, .int x3)]) hx hb dX5_comes_23 hl (by decide) rfl (fun ls hl => ?_)
        refine lv_iload_n hx hb dX5_comes_25 rfl (lv_at hl 3 rfl) ?_
        refine lv_iconst (v := 1) hx hb dX5_comes_26 (by decide) ?_
        refine lv_isub hx hb dX5_comes_27 ?_
        refine lv_istore (lv' := [(5, .int (x2 - 1)), (4, .int x1), (0, .ref (ad 0)), (1, .int x1), (2, .int x2), (3, .int x3)]) hx hb dX5_comes_28 hl (by decide) rfl (fun ls hl => ?_)
        obtain ⟨x4_L30, e30, h⟩ := bd1_some h
        refine hL_30 _ _ _ _ _ (fun ls H locs hl hG => ?_) _ _ _ e30 _ _ _ (lv_sub hl [2, 3, 4, 5, 1, 0] rfl) hG
        refine lv_iload hx hb dX5_comes_49 (lv_at hl 4 rfl) ?_
        refine lv_bipush (v := 7) hx hb dX5_comes_51 (by decide) ?_
        refine lv_irem hx hb dX5_comes_53 (by decide) ?_
        refine lv_iconst (v := 1) hx hb dX5_comes_54 (by decide) ?_
        refine lv_isub hx hb dX5_comes_55 ?_
        refine lv_istore (lv' := [(5, .int ((x4_L30 - x4_L30 / 7 * 7) - 1)), (0, .ref (ad 0)), (1, .int x1), (2, .int x2), (3, .int x3), (4, .int x4_L30)]) hx hb dX5_comes_56 hl (by decide) rfl (fun ls hl => ?_)
        refine lv_iload hx hb dX5_comes_58 (lv_at hl 0 rfl) ?_
        refine lv_aload_n hx hb dX5_comes_60 rfl (lv_at hl 1 rfl) ?_
        refine x_get hc hG 0 rfl iX5 5 lX5_25 rfl dX5_comes_61 ?_
        refine lv_iconst (v := 1) hx hb dX5_comes_64 (by decide) ?_
        obtain ⟨v65, e65, h⟩ := bd1_some h
        refine x_ald hc hG 6 rfl e65 dX5_comes_65 ?_
        refine lv_icmp_ge (tgt := 93) hx hb dX5_comes_66 (by decide) (fun c66 => ?_) (fun c66 => ?_)
        · rw [if_pos c66] at h
          refine lv_bipush (v := (-9)) hx hb dX5_comes_93 (by decide) ?_
          cases h
          exact KR _ _ rfl _ _ _ _ hG dX5_comes_95 rfl
        · rw [if_neg c66] at h
          refine lv_iload hx hb dX5_comes_69 (lv_at hl 0 rfl) ?_
          refine lv_if_lt (tgt := 96) hx hb dX5_comes_71 (by decide) (fun c71 => ?_) (fun c71 => ?_)
          · rw [if_pos c71] at h
            exact hj_96 _ _ _ h _ _ _ (lv_sub hl [1, 2, 3, 4, 0] rfl) hG
          · rw [if_neg c71] at h
            refine lv_aload_n hx hb dX5_comes_74 rfl (lv_at hl 1 rfl) ?_
            refine x_get hc hG 0 rfl iX5 7 lX5_31 rfl dX5_comes_75 ?_
            refine lv_iconst (v := 5) hx hb dX5_comes_78 (by decide) ?_
            refine lv_iconst (v := 5) hx hb dX5_comes_79 (by decide) ?_
            refine lv_iload hx hb dX5_comes_80 (lv_at hl 0 rfl) ?_
            refine lv_imul hx hb dX5_comes_82 ?_
            refine lv_iadd hx hb dX5_comes_83 ?_
            refine lv_iconst (v := 4) hx hb dX5_comes_84 (by decide) ?_
            refine lv_iadd hx hb dX5_comes_85 ?_
            obtain ⟨v86, e86, h⟩ := bd1_some h
            refine x_ald hc hG 8 rfl e86 dX5_comes_86 ?_
            refine lv_iload_n hx hb dX5_comes_87 rfl (lv_at hl 4 rfl) ?_
            refine lv_iconst (v := 2) hx hb dX5_comes_88 (by decide) ?_
            refine lv_irem hx hb dX5_comes_89 (by decide) ?_
            refine lv_icmp_eq (tgt := 96) hx hb dX5_comes_90 (by decide) (fun c90 => ?_) (fun c90 => ?_)
            · rw [if_pos c90] at h
              exact hj_96 _ _ _ h _ _ _ (lv_sub hl [1, 2, 3, 4, 0] rfl) hG
            · rw [if_neg c90] at h
              refine lv_bipush (v := (-9)) hx hb dX5_comes_93 (by decide) ?_
              cases h
              exact KR _ _ rfl _ _ _ _ hG dX5_comes_95 rfl
  unfold fX5_comes at h
  refine lv_aload_n hx hb dX5_comes_0 rfl (lv_at hl 0 rfl) ?_
  refine x_get hc hG 0 rfl iX5 5 lX5_25 rfl dX5_comes_1 ?_
  refine lv_iconst (v := 0) hx hb dX5_comes_4 (by decide) ?_
  refine lv_aload_n hx hb dX5_comes_5 rfl (lv_at hl 0 rfl) ?_
  refine x_get hc hG 0 rfl iX5 7 lX5_31 rfl dX5_comes_6 ?_
  refine lv_iconst (v := 0) hx hb dX5_comes_9 (by decide) ?_
  refine lv_bipush (v := 35) hx hb dX5_comes_10 (by decide) ?_
  obtain ⟨tried_12, e12, h⟩ := bd1_some h
  refine x_sv (rest := []) (ws' := (wX5 cI ad deeds finding asked upper lower m_at wrong rowSize rows textSize texts spare now draft tried_12 past kept keptPast keptDeeds findings worth)) hc hG (cc_X5_copies (fun k => match k with | 0 => ad 6 | _ => ad 8) 35 35 now tried 0 0 35 tried_12 e12) [6, 8] [0, 1, 2, 3, 4, 5, 7, 9, 10, 11, 12, 13, 14] [0, 1, 2, 3, 4, 5, 13, 6, 14, 7, 8, 9, 10, 11, 12] rfl rfl rfl lX5_120 ⟨rfl, rfl, by decide, by decide⟩ rfl hl.1 (Nat.le_of_ble_eq_true rfl) rfl dX5_comes_12 (fun H locs hG => ?_)
  refine lv_iconst (v := 0) hx hb dX5_comes_15 (by decide) ?_
  refine lv_istore_n (lv' := [(3, .int 0), (0, .ref (ad 0)), (1, .int x1), (2, .int x2)]) hx hb dX5_comes_16 rfl hl (by decide) rfl (fun ls hl => ?_)
  rcases st1_some h with e17 | ⟨tried_L17, e17, h⟩
  · exact hL_17 _ _ _ (fun _ _ e H locs pc ls hG d hn => by cases e; exact hret _ _ _ _ hG d hn) (fun _ e => by cases e) _ _ _ e17 _ _ _ (lv_sub hl [1, 2, 3, 0] rfl) hG
  · refine hL_17 _ _ _ (fun _ _ e => by cases e) (fun tried_L17 e ls H locs hl hG => ?_) _ _ _ e17 _ _ _ (lv_sub hl [1, 2, 3, 0] rfl) hG
    cases e
    refine lv_aload_n hx hb dX5_comes_125 rfl (lv_at hl 0 rfl) ?_
    refine x_get hc hG 0 rfl iX5 7 lX5_31 rfl dX5_comes_126 ?_
    obtain ⟨v129, tried_129, e129, h⟩ := bd2_some h
    refine x_si (rest := []) (ws' := (wX5 cI ad deeds finding asked upper lower m_at wrong rowSize rows textSize texts spare now draft tried_129 past kept keptPast keptDeeds findings worth)) hc hG (cc_X5_passes (fun k => ad (8 + k)) 35 tried_L17 v129 tried_129 e129) [8] [0, 1, 2, 3, 4, 5, 6, 7, 9, 10, 11, 12, 13, 14] [0, 1, 2, 3, 4, 5, 6, 7, 14, 8, 9, 10, 11, 12, 13] rfl rfl rfl lX5_193 ⟨rfl, rfl, by decide, by decide⟩ rfl hl.1 (Nat.le_of_ble_eq_true rfl) rfl dX5_comes_129 (fun H locs hG => ?_)
    obtain ⟨v132, e132, h⟩ := bd1_some h
    refine x_si0 (rest := []) hc hG (cc_X5_ones v129 v132 e132) lX5_151 ⟨rfl, rfl, by decide, by decide⟩ rfl hl.1 (Nat.le_of_ble_eq_true rfl) rfl dX5_comes_132 (fun H locs hG => ?_)
    cases h
    exact hret _ _ _ _ hG dX5_comes_135 rfl
set_option maxRecDepth 100000 in
set_option maxHeartbeats 4000000 in
theorem cc_X5_duel {l : Launch} {D : va_G} {cI : ClassId} {tL : Nat} (ad : Nat → Nat) (deeds : Int32) (finding : Int32) (asked : Int32) (upper : Int64) (lower : Int64) (m_at : Int32) (wrong : Int32) (rowSize : Nat → Int32) (rows : Nat → Int32) (textSize : Nat → Int32) (texts : Nat → Int32) (spare : Nat → Int32) (now : Nat → Int32) (draft : Nat → Int32) (tried : Nat → Int32) (past : Nat → Int32) (kept : Nat → Int32) (keptPast : Nat → Int32) (keptDeeds : Nat → Int32) (findings : Nat → Int32) (worth : Nat → Int32) (x1 : Int32) (r' : Int32) (asked' : Int32) (tried' : Nat → Int32) (worth' : Nat → Int32) (h : fX5_duel asked now tried worth x1 = some (r', asked', tried', worth')) : Ci l D cI tL yX5_duel cX5_duel 9 .int rmX5_duel (wX5 cI ad deeds finding asked upper lower m_at wrong rowSize rows textSize texts spare now draft tried past kept keptPast keptDeeds findings worth) [.ref (ad 0), .int x1] r' (wX5 cI ad deeds finding asked' upper lower m_at wrong rowSize rows textSize texts spare now draft tried' past kept keptPast keptDeeds findings worth') := by
  refine Ci_of (own := RX5) (by decide) (Nat.le_of_ble_eq_true rfl) rfl ?_
  intro p e s m below meth c Q A AV hc hret ls hl hG
  obtain ⟨hx, hb, hml, hown, hts, hK, hA, hz⟩ := id hc
  have hl : lv_has ls 9 [(0, .ref (ad 0)), (1, .int x1)] := hl
  have hL_25 : ∀ (x1 : Int32) (asked : Int32) (tried : Nat → Int32) (worth : Nat → Int32) (x2_o : Int32), (∀ (ls : Array Slot) (H : Heap) (locs : List Loc), lv_has ls 9 [(0, .ref (ad 0)), (1, .int x1), (2, .int x2_o)] → St D A s (wX5 cI ad deeds finding asked upper lower m_at wrong rowSize rows textSize texts spare now draft tried past kept keptPast keptDeeds findings worth) H locs → W p l e rmX5_duel s m AV below meth c H locs 0 0 Q (F0 m 43 ls [])) → ∀ (n : Nat) (x2 : Int32) (x3 : Int32), fX5_duel_L25 x1 n x2 x3 = some x2_o → ∀ (ls : Array Slot) (H : Heap) (locs : List Loc), lv_has ls 9 [(0, .ref (ad 0)), (1, .int x1), (2, .int x2), (3, .int x3)] → St D A s (wX5 cI ad deeds finding asked upper lower m_at wrong rowSize rows textSize texts spare now draft tried past kept keptPast keptDeeds findings worth) H locs → W p l e rmX5_duel s m AV below meth c H locs 0 0 Q (F0 m 25 ls []) := by
    intro x1 asked tried worth x2_o KE n
    induction n with
    | zero =>
      intro x2 x3 h
      exact nomatch (show none = some _ from h)
    | succ n ih =>
      intro x2 x3 h ls H locs hl hG
      have h : fX5_duel_B25 x1 (fX5_duel_L25 x1 n) x2 x3 = some x2_o := h
      unfold fX5_duel_B25 at h
      refine lv_iload_n hx hb dX5_duel_25 rfl (lv_at hl 3 rfl) ?_
      refine lv_iconst (v := 2) hx hb dX5_duel_26 (by decide) ?_
      refine lv_iload_n hx hb dX5_duel_27 rfl (lv_at hl 1 rfl) ?_
      refine lv_imul hx hb dX5_duel_28 ?_
      refine lv_icmp_ge (tgt := 43) hx hb dX5_duel_29 (by decide) (fun c29 => ?_) (fun c29 => ?_)
      · rw [if_pos c29] at h
        cases h
        exact KE _ _ _ (lv_sub hl [0, 1, 2] rfl) hG
      · rw [if_neg c29] at h
        refine lv_iload_n hx hb dX5_duel_32 rfl (lv_at hl 2 rfl) ?_
        refine lv_bipush (v := 7) hx hb dX5_duel_33 (by decide) ?_
        refine lv_imul hx hb dX5_duel_35 ?_
        refine lv_istore_n (lv' := [(2, .int (x2 * 7)), (0, .ref (ad 0)), (1, .int x1), (3, .int x3)]) hx hb dX5_duel_36 rfl hl (by decide) rfl (fun ls hl => ?_)
        refine lv_iinc (v := (x3 + 1)) (lv' := [(3, .int (x3 + 1)), (2, .int (x2 * 7)), (0, .ref (ad 0)), (1, .int x1)]) hx hb dX5_duel_37 hl (k := 3) rfl rfl (by decide) rfl (fun ls hl => ?_)
        refine lv_goto (tgt := 25) hx hb dX5_duel_40 (by decide) ?_
        exact ih _ _ h _ _ _ (lv_sub hl [2, 3, 1, 0] rfl) hG
  have hL_45 : ∀ (x1 : Int32) (x2 : Int32) (asked : Int32) (tried_o : Nat → Int32) (worth_o : Nat → Int32), (∀ (ls : Array Slot) (H : Heap) (locs : List Loc), lv_has ls 9 [(0, .ref (ad 0)), (1, .int x1), (2, .int x2)] → St D A s (wX5 cI ad deeds finding asked upper lower m_at wrong rowSize rows textSize texts spare now draft tried_o past kept keptPast keptDeeds findings worth_o) H locs → W p l e rmX5_duel s m AV below meth c H locs 0 0 Q (F0 m 70 ls [])) → ∀ (n : Nat) (tried : Nat → Int32) (worth : Nat → Int32) (x3 : Int32), fX5_duel_L45 now x1 x2 n tried worth x3 = some (tried_o, worth_o) → ∀ (ls : Array Slot) (H : Heap) (locs : List Loc), lv_has ls 9 [(0, .ref (ad 0)), (1, .int x1), (2, .int x2), (3, .int x3)] → St D A s (wX5 cI ad deeds finding asked upper lower m_at wrong rowSize rows textSize texts spare now draft tried past kept keptPast keptDeeds findings worth) H locs → W p l e rmX5_duel s m AV below meth c H locs 0 0 Q (F0 m 45 ls []) := by
    intro x1 x2 asked tried_o worth_o KE n
    induction n with
    | zero =>
      intro tried worth x3 h
      exact nomatch (show none = some _ from h)
    | succ n ih =>
      intro tried worth x3 h ls H locs hl hG
      have h : fX5_duel_B45 now x1 x2 (fX5_duel_L45 now x1 x2 n) tried worth x3 = some (tried_o, worth_o) := h
      unfold fX5_duel_B45 at h
      refine lv_iload_n hx hb dX5_duel_45 rfl (lv_at hl 3 rfl) ?_
      refine lv_iload_n hx hb dX5_duel_46 rfl (lv_at hl 2 rfl) ?_
      refine lv_icmp_ge (tgt := 70) hx hb dX5_duel_47 (by decide) (fun c47 => ?_) (fun c47 => ?_)
      · rw [if_pos c47] at h
        cases h
        exact KE _ _ _ (lv_sub hl [0, 1, 2] rfl) hG
      · rw [if_neg c47] at h
        refine lv_aload_n hx hb dX5_duel_50 rfl (lv_at hl 0 rfl) ?_
        refine x_get hc hG 0 rfl iX5 20 lX5_53 rfl dX5_duel_51 ?_
        refine lv_iload_n hx hb dX5_duel_54 rfl (lv_at hl 3 rfl) ?_
        refine lv_aload_n hx hb dX5_duel_55 rfl (lv_at hl 0 rfl) ?_
        refine lv_iload_n hx hb dX5_duel_56 rfl (lv_at hl 3 rfl) ?_
        refine lv_iconst (v := 2) hx hb dX5_duel_57 (by decide) ?_
        refine lv_iload_n hx hb dX5_duel_58 rfl (lv_at hl 1 rfl) ?_
        refine lv_imul hx hb dX5_duel_59 ?_
        obtain ⟨v60, tried_60, e60, h⟩ := bd2_some h
        refine x_vi (rest := [.int x3, .ref (ad 14)]) (ws' := (wX5 cI ad deeds finding asked upper lower m_at wrong rowSize rows textSize texts spare now draft tried_60 past kept keptPast keptDeeds findings worth)) hc hG (cc_X5_comes ad deeds finding asked upper lower m_at wrong rowSize rows textSize texts spare now draft tried past kept keptPast keptDeeds findings worth x3 (2 * x1) v60 tried_60 e60) [0, 1, 2, 3, 4, 5, 6, 7, 8, 9, 10, 11, 12, 13, 14] [] [0, 1, 2, 3, 4, 5, 6, 7, 8, 9, 10, 11, 12, 13, 14] rfl rfl rfl 0 rfl rfl lX5_228 ⟨rfl, rfl, by decide, by decide⟩ rfl hl.1 (Nat.le_of_ble_eq_true rfl) rfl dX5_duel_60 (fun H locs hG => ?_)
        obtain ⟨worth_63, e63, h⟩ := bd1_some h
        refine x_ast (ws' := (wX5 cI ad deeds finding asked upper lower m_at wrong rowSize rows textSize texts spare now draft tried_60 past kept keptPast keptDeeds findings worth_63)) hc hG 14 rfl e63 rfl dX5_duel_63 (fun H locs hG => ?_)
        refine lv_iinc (v := (x3 + 1)) (lv' := [(3, .int (x3 + 1)), (0, .ref (ad 0)), (1, .int x1), (2, .int x2)]) hx hb dX5_duel_64 hl (k := 3) rfl rfl (by decide) rfl (fun ls hl => ?_)
        refine lv_goto (tgt := 45) hx hb dX5_duel_67 (by decide) ?_
        exact ih _ _ _ h _ _ _ (lv_sub hl [1, 2, 3, 0] rfl) hG
  have hL_109 : ∀ (worth : Nat → Int32) (x3 : Int32) (x4 : Int32) (asked : Int32) (tried : Nat → Int32) (x2 : Int32) (x5_o : Int32), (∀ (ls : Array Slot) (H : Heap) (locs : List Loc), lv_has ls 9 [(0, .ref (ad 0)), (2, .int x2), (3, .int x3), (4, .int x4), (5, .int x5_o)] → St D A s (wX5 cI ad deeds finding asked upper lower m_at wrong rowSize rows textSize texts spare now draft tried past kept keptPast keptDeeds findings worth) H locs → W p l e rmX5_duel s m AV below meth c H locs 0 0 Q (F0 m 189 ls [])) → ∀ (n : Nat) (x5 : Int32) (x6 : Int32), fX5_duel_L109 worth x3 x4 n x5 x6 = some x5_o → ∀ (ls : Array Slot) (H : Heap) (locs : List Loc), lv_has ls 9 [(0, .ref (ad 0)), (2, .int x2), (3, .int x3), (4, .int x4), (5, .int x5), (6, .int x6)] → St D A s (wX5 cI ad deeds finding asked upper lower m_at wrong rowSize rows textSize texts spare now draft tried past kept keptPast keptDeeds findings worth) H locs → W p l e rmX5_duel s m AV below meth c H locs 0 0 Q (F0 m 109 ls []) := by
    intro worth x3 x4 asked tried x2 x5_o KE n
    induction n with
    | zero =>
      intro x5 x6 h
      exact nomatch (show none = some _ from h)
    | succ n ih =>
      intro x5 x6 h ls H locs hl hG
      have h : fX5_duel_B109 worth x3 x4 (fX5_duel_L109 worth x3 x4 n) x5 x6 = some x5_o := h
      have hj_181 : ∀ (x6 : Int32) (k0 : Int32) , fX5_duel_j181 (fX5_duel_L109 worth x3 x4 n) worth x3 x4 x6 k0 = some x5_o → ∀ (ls : Array Slot) (H : Heap) (locs : List Loc), lv_has ls 9 [(0, .ref (ad 0)), (2, .int x2), (3, .int x3), (4, .int x4), (6, .int x6)] → St D A s (wX5 cI ad deeds finding asked upper lower m_at wrong rowSize rows textSize texts spare now draft tried past kept keptPast keptDeeds findings worth) H locs → W p l e rmX5_duel s m AV below meth c H locs 0 0 Q (F0 m 181 ls [.int k0]) := by
        intro x6 k0 h ls H locs hl hG
        unfold fX5_duel_j181 at h
        refine lv_istore (lv' := [(5, .int k0), (0, .ref (ad 0)), (2, .int x2), (3, .int x3), (4, .int x4), (6, .int x6)]) hx hb dX5_duel_181 hl (by decide) rfl (fun ls hl => ?_)
        refine lv_iinc (v := (x6 + 1)) (lv' := [(6, .int (x6 + 1)), (5, .int k0), (0, .ref (ad 0)), (2, .int x2), (3, .int x3), (4, .int x4)]) hx hb dX5_duel_183 hl (k := 5) rfl rfl (by decide) rfl (fun ls hl => ?_)
        refine lv_goto (tgt := 109) hx hb dX5_duel_186 (by decide) ?_
        exact ih _ _ h _ _ _ (lv_sub hl [2, 3, 4, 5, 1, 0] rfl) hG
      have hj_167 : ∀ (x5 : Int32) (x6 : Int32) (x7 : Int32) (k0 : Int32) , fX5_duel_j167 (fX5_duel_L109 worth x3 x4 n) worth x3 x4 x5 x6 x7 k0 = some x5_o → ∀ (ls : Array Slot) (H : Heap) (locs : List Loc), lv_has ls 9 [(0, .ref (ad 0)), (2, .int x2), (3, .int x3), (4, .int x4), (5, .int x5), (6, .int x6), (7, .int x7)] → St D A s (wX5 cI ad deeds finding asked upper lower m_at wrong rowSize rows textSize texts spare now draft tried past kept keptPast keptDeeds findings worth) H locs → W p l e rmX5_duel s m AV below meth c H locs 0 0 Q (F0 m 167 ls [.int k0]) := by
        intro x5 x6 x7 k0 h ls H locs hl hG
        unfold fX5_duel_j167 at h
        refine lv_istore (lv' := [(8, .int k0), (0, .ref (ad 0)), (2, .int x2), (3, .int x3), (4, .int x4), (5, .int x5), (6, .int x6), (7, .int x7)]) hx hb dX5_duel_167 hl (by decide) rfl (fun ls hl => ?_)
        refine lv_iload hx hb dX5_duel_169 (lv_at hl 0 rfl) ?_
        refine lv_if_eq (tgt := 179) hx hb dX5_duel_171 (by decide) (fun c171 => ?_) (fun c171 => ?_)
        · rw [if_pos c171] at h
          refine lv_iload hx hb dX5_duel_179 (lv_at hl 5 rfl) ?_
          exact hj_181 _ _ h _ _ _ (lv_sub hl [1, 2, 3, 4, 6] rfl) hG
        · rw [if_neg c171] at h
          refine lv_iload hx hb dX5_duel_174 (lv_at hl 7 rfl) ?_
          refine lv_goto (tgt := 181) hx hb dX5_duel_176 (by decide) ?_
          exact hj_181 _ _ h _ _ _ (lv_sub hl [1, 2, 3, 4, 6] rfl) hG
      have hj_166 : ∀ (x5 : Int32) (x6 : Int32) (x7 : Int32) , fX5_duel_j166 (fX5_duel_L109 worth x3 x4 n) worth x3 x4 x5 x6 x7 = some x5_o → ∀ (ls : Array Slot) (H : Heap) (locs : List Loc), lv_has ls 9 [(0, .ref (ad 0)), (2, .int x2), (3, .int x3), (4, .int x4), (5, .int x5), (6, .int x6), (7, .int x7)] → St D A s (wX5 cI ad deeds finding asked upper lower m_at wrong rowSize rows textSize texts spare now draft tried past kept keptPast keptDeeds findings worth) H locs → W p l e rmX5_duel s m AV below meth c H locs 0 0 Q (F0 m 166 ls []) := by
        intro x5 x6 x7 h ls H locs hl hG
        unfold fX5_duel_j166 at h
        refine lv_iconst (v := 0) hx hb dX5_duel_166 (by decide) ?_
        exact hj_167 _ _ _ _ h _ _ _ (lv_sub hl [0, 1, 2, 3, 4, 5, 6] rfl) hG
      have hj_162 : ∀ (x5 : Int32) (x6 : Int32) (x7 : Int32) , fX5_duel_j162 (fX5_duel_L109 worth x3 x4 n) worth x3 x4 x5 x6 x7 = some x5_o → ∀ (ls : Array Slot) (H : Heap) (locs : List Loc), lv_has ls 9 [(0, .ref (ad 0)), (2, .int x2), (3, .int x3), (4, .int x4), (5, .int x5), (6, .int x6), (7, .int x7)] → St D A s (wX5 cI ad deeds finding asked upper lower m_at wrong rowSize rows textSize texts spare now draft tried past kept keptPast keptDeeds findings worth) H locs → W p l e rmX5_duel s m AV below meth c H locs 0 0 Q (F0 m 162 ls []) := by
        intro x5 x6 x7 h ls H locs hl hG
        unfold fX5_duel_j162 at h
        refine lv_iconst (v := 1) hx hb dX5_duel_162 (by decide) ?_
        refine lv_goto (tgt := 167) hx hb dX5_duel_163 (by decide) ?_
        exact hj_167 _ _ _ _ h _ _ _ (lv_sub hl [0, 1, 2, 3, 4, 5, 6] rfl) hG
      unfold fX5_duel_B109 at h
      refine lv_iload hx hb dX5_duel_109 (lv_at hl 5 rfl) ?_
      refine lv_bipush (v := 7) hx hb dX5_duel_111 (by decide) ?_
      refine lv_icmp_ge (tgt := 189) hx hb dX5_duel_113 (by decide) (fun c113 => ?_) (fun c113 => ?_)
      · rw [if_pos c113] at h
        cases h
        exact KE _ _ _ (lv_sub hl [0, 1, 2, 3, 4] rfl) hG
      · rw [if_neg c113] at h
        refine lv_aload_n hx hb dX5_duel_116 rfl (lv_at hl 0 rfl) ?_
        refine x_get hc hG 0 rfl iX5 20 lX5_53 rfl dX5_duel_117 ?_
        refine lv_bipush (v := 7) hx hb dX5_duel_120 (by decide) ?_
        refine lv_iload hx hb dX5_duel_122 (lv_at hl 3 rfl) ?_
        refine lv_imul hx hb dX5_duel_124 ?_
        refine lv_iload hx hb dX5_duel_125 (lv_at hl 5 rfl) ?_
        refine lv_iadd hx hb dX5_duel_127 ?_
        obtain ⟨v128, e128, h⟩ := bd1_some h
        refine x_ald hc hG 14 rfl e128 dX5_duel_128 ?_
        refine lv_istore (lv' := [(7, .int v128), (0, .ref (ad 0)), (2, .int x2), (3, .int x3), (4, .int x4), (5, .int x5), (6, .int x6)]) hx hb dX5_duel_129 hl (by decide) rfl (fun ls hl => ?_)
        refine lv_iload hx hb dX5_duel_131 (lv_at hl 0 rfl) ?_
        refine lv_bipush (v := (-9)) hx hb dX5_duel_133 (by decide) ?_
        refine lv_icmp_eq (tgt := 166) hx hb dX5_duel_135 (by decide) (fun c135 => ?_) (fun c135 => ?_)
        · rw [if_pos c135] at h
          exact hj_166 _ _ _ h _ _ _ (lv_sub hl [1, 2, 3, 4, 5, 6, 0] rfl) hG
        · rw [if_neg c135] at h
          refine lv_iload_n hx hb dX5_duel_138 rfl (lv_at hl 3 rfl) ?_
          refine lv_iconst (v := 2) hx hb dX5_duel_139 (by decide) ?_
          refine lv_irem hx hb dX5_duel_140 (by decide) ?_
          refine lv_iconst (v := 1) hx hb dX5_duel_141 (by decide) ?_
          refine lv_icmp_ne (tgt := 155) hx hb dX5_duel_142 (by decide) (fun c142 => ?_) (fun c142 => ?_)
          · rw [if_neg c142] at h
            refine lv_iload hx hb dX5_duel_155 (lv_at hl 0 rfl) ?_
            refine lv_iload hx hb dX5_duel_157 (lv_at hl 5 rfl) ?_
            refine lv_icmp_ge (tgt := 166) hx hb dX5_duel_159 (by decide) (fun c159 => ?_) (fun c159 => ?_)
            · rw [if_pos c159] at h
              exact hj_166 _ _ _ h _ _ _ (lv_sub hl [1, 2, 3, 4, 5, 6, 0] rfl) hG
            · rw [if_neg c159] at h
              exact hj_162 _ _ _ h _ _ _ (lv_sub hl [1, 2, 3, 4, 5, 6, 0] rfl) hG
          · rw [if_pos c142] at h
            refine lv_iload hx hb dX5_duel_145 (lv_at hl 0 rfl) ?_
            refine lv_iload hx hb dX5_duel_147 (lv_at hl 5 rfl) ?_
            refine lv_icmp_le (tgt := 166) hx hb dX5_duel_149 (by decide) (fun c149 => ?_) (fun c149 => ?_)
            · rw [if_pos c149] at h
              exact hj_166 _ _ _ h _ _ _ (lv_sub hl [1, 2, 3, 4, 5, 6, 0] rfl) hG
            · rw [if_neg c149] at h
              refine lv_goto (tgt := 162) hx hb dX5_duel_152 (by decide) ?_
              exact hj_162 _ _ _ h _ _ _ (lv_sub hl [1, 2, 3, 4, 5, 6, 0] rfl) hG
  have hL_88 : ∀ (x2 : Int32) (x3 : Int32) (asked : Int32) (tried : Nat → Int32) (worth_o : Nat → Int32), (∀ (ls : Array Slot) (H : Heap) (locs : List Loc), lv_has ls 9 [(0, .ref (ad 0)), (2, .int x2), (3, .int x3)] → St D A s (wX5 cI ad deeds finding asked upper lower m_at wrong rowSize rows textSize texts spare now draft tried past kept keptPast keptDeeds findings worth_o) H locs → W p l e rmX5_duel s m AV below meth c H locs 0 0 Q (F0 m 204 ls [])) → ∀ (n : Nat) (worth : Nat → Int32) (x4 : Int32), fX5_duel_L88 x2 x3 n worth x4 = some worth_o → ∀ (ls : Array Slot) (H : Heap) (locs : List Loc), lv_has ls 9 [(0, .ref (ad 0)), (2, .int x2), (3, .int x3), (4, .int x4)] → St D A s (wX5 cI ad deeds finding asked upper lower m_at wrong rowSize rows textSize texts spare now draft tried past kept keptPast keptDeeds findings worth) H locs → W p l e rmX5_duel s m AV below meth c H locs 0 0 Q (F0 m 88 ls []) := by
    intro x2 x3 asked tried worth_o KE n
    induction n with
    | zero =>
      intro worth x4 h
      exact nomatch (show none = some _ from h)
    | succ n ih =>
      intro worth x4 h ls H locs hl hG
      have h : fX5_duel_B88 x2 x3 (fX5_duel_L88 x2 x3 n) worth x4 = some worth_o := h
      unfold fX5_duel_B88 at h
      refine lv_iload hx hb dX5_duel_88 (lv_at hl 3 rfl) ?_
      refine lv_iload_n hx hb dX5_duel_90 rfl (lv_at hl 1 rfl) ?_
      refine lv_icmp_ge (tgt := 204) hx hb dX5_duel_91 (by decide) (fun c91 => ?_) (fun c91 => ?_)
      · rw [if_pos c91] at h
        cases h
        exact KE _ _ _ (lv_sub hl [0, 1, 2] rfl) hG
      · rw [if_neg c91] at h
        refine lv_aload_n hx hb dX5_duel_94 rfl (lv_at hl 0 rfl) ?_
        refine x_get hc hG 0 rfl iX5 20 lX5_53 rfl dX5_duel_95 ?_
        refine lv_bipush (v := 7) hx hb dX5_duel_98 (by decide) ?_
        refine lv_iload hx hb dX5_duel_100 (lv_at hl 3 rfl) ?_
        refine lv_imul hx hb dX5_duel_102 ?_
        obtain ⟨v103, e103, h⟩ := bd1_some h
        refine x_ald hc hG 14 rfl e103 dX5_duel_103 ?_
        refine lv_istore (lv' := [(5, .int v103), (0, .ref (ad 0)), (2, .int x2), (3, .int x3), (4, .int x4)]) hx hb dX5_duel_104 hl (by decide) rfl (fun ls hl => ?_)
        refine lv_iconst (v := 1) hx hb dX5_duel_106 (by decide) ?_
        refine lv_istore (lv' := [(6, .int 1), (5, .int v103), (0, .ref (ad 0)), (2, .int x2), (3, .int x3), (4, .int x4)]) hx hb dX5_duel_107 hl (by decide) rfl (fun ls hl => ?_)
        obtain ⟨x5_L109, e109, h⟩ := bd1_some h
        refine hL_109 _ _ _ _ _ _ _ (fun ls H locs hl hG => ?_) _ _ _ e109 _ _ _ (lv_sub hl [2, 3, 4, 5, 1, 0] rfl) hG
        refine lv_aload_n hx hb dX5_duel_189 rfl (lv_at hl 0 rfl) ?_
        refine x_get hc hG 0 rfl iX5 20 lX5_53 rfl dX5_duel_190 ?_
        refine lv_iload hx hb dX5_duel_193 (lv_at hl 3 rfl) ?_
        refine lv_iload hx hb dX5_duel_195 (lv_at hl 4 rfl) ?_
        obtain ⟨worth_197, e197, h⟩ := bd1_some h
        refine x_ast (ws' := (wX5 cI ad deeds finding asked upper lower m_at wrong rowSize rows textSize texts spare now draft tried past kept keptPast keptDeeds findings worth_197)) hc hG 14 rfl e197 rfl dX5_duel_197 (fun H locs hG => ?_)
        refine lv_iinc (v := (x4 + 1)) (lv' := [(4, .int (x4 + 1)), (0, .ref (ad 0)), (2, .int x2), (3, .int x3), (5, .int x5_L109)]) hx hb dX5_duel_198 hl (k := 3) rfl rfl (by decide) rfl (fun ls hl => ?_)
        refine lv_goto (tgt := 88) hx hb dX5_duel_201 (by decide) ?_
        exact ih _ _ h _ _ _ (lv_sub hl [1, 2, 3, 0] rfl) hG
  have hL_76 : ∀ (asked : Int32) (tried : Nat → Int32) (worth_o : Nat → Int32), (∀ (ls : Array Slot) (H : Heap) (locs : List Loc), lv_has ls 9 [(0, .ref (ad 0))] → St D A s (wX5 cI ad deeds finding asked upper lower m_at wrong rowSize rows textSize texts spare now draft tried past kept keptPast keptDeeds findings worth_o) H locs → W p l e rmX5_duel s m AV below meth c H locs 0 0 Q (F0 m 210 ls [])) → ∀ (n : Nat) (worth : Nat → Int32) (x2 : Int32) (x3 : Int32), fX5_duel_L76 n worth x2 x3 = some worth_o → ∀ (ls : Array Slot) (H : Heap) (locs : List Loc), lv_has ls 9 [(0, .ref (ad 0)), (2, .int x2), (3, .int x3)] → St D A s (wX5 cI ad deeds finding asked upper lower m_at wrong rowSize rows textSize texts spare now draft tried past kept keptPast keptDeeds findings worth) H locs → W p l e rmX5_duel s m AV below meth c H locs 0 0 Q (F0 m 76 ls []) := by
    intro asked tried worth_o KE n
    induction n with
    | zero =>
      intro worth x2 x3 h
      exact nomatch (show none = some _ from h)
    | succ n ih =>
      intro worth x2 x3 h ls H locs hl hG
      have h : fX5_duel_B76 (fX5_duel_L76 n) worth x2 x3 = some worth_o := h
      unfold fX5_duel_B76 at h
      refine lv_iload_n hx hb dX5_duel_76 rfl (lv_at hl 2 rfl) ?_
      refine lv_if_lt (tgt := 210) hx hb dX5_duel_77 (by decide) (fun c77 => ?_) (fun c77 => ?_)
      · rw [if_pos c77] at h
        cases h
        exact KE _ _ _ (lv_sub hl [0] rfl) hG
      · rw [if_neg c77] at h
        refine lv_iload_n hx hb dX5_duel_80 rfl (lv_at hl 1 rfl) ?_
        refine lv_bipush (v := 7) hx hb dX5_duel_81 (by decide) ?_
        refine lv_idiv hx hb dX5_duel_83 (by decide) ?_
        refine lv_istore_n (lv' := [(2, .int (x2 / 7)), (0, .ref (ad 0)), (3, .int x3)]) hx hb dX5_duel_84 rfl hl (by decide) rfl (fun ls hl => ?_)
        refine lv_iconst (v := 0) hx hb dX5_duel_85 (by decide) ?_
        refine lv_istore (lv' := [(4, .int 0), (2, .int (x2 / 7)), (0, .ref (ad 0)), (3, .int x3)]) hx hb dX5_duel_86 hl (by decide) rfl (fun ls hl => ?_)
        obtain ⟨worth_L88, e88, h⟩ := bd1_some h
        refine hL_88 _ _ _ _ _ (fun ls H locs hl hG => ?_) _ _ _ e88 _ _ _ (lv_sub hl [2, 1, 3, 0] rfl) hG
        refine lv_iinc (v := (x3 + (-1))) (lv' := [(3, .int (x3 + (-1))), (0, .ref (ad 0)), (2, .int (x2 / 7))]) hx hb dX5_duel_204 hl (k := 2) rfl rfl (by decide) rfl (fun ls hl => ?_)
        refine lv_goto (tgt := 76) hx hb dX5_duel_207 (by decide) ?_
        exact ih _ _ _ h _ _ _ (lv_sub hl [1, 2, 0] rfl) hG
  unfold fX5_duel at h
  refine lv_iload_n hx hb dX5_duel_0 rfl (lv_at hl 1 rfl) ?_
  refine lv_iconst (v := 0) hx hb dX5_duel_1 (by decide) ?_
  refine lv_iconst (v := 2) hx hb dX5_duel_2 (by decide) ?_
  obtain ⟨v3, e3, h⟩ := bd1_some h
  refine x_si0 (rest := []) hc hG (cc_X5_in0 x1 0 2 v3 e3) lX5_63 ⟨rfl, rfl, by decide, by decide⟩ rfl hl.1 (Nat.le_of_ble_eq_true rfl) rfl dX5_duel_3 (fun H locs hG => ?_)
  refine lv_if_ne (tgt := 11) hx hb dX5_duel_6 (by decide) (fun c6 => ?_) (fun c6 => ?_)
  · rw [if_neg c6] at h
    refine lv_aload_n hx hb dX5_duel_11 rfl (lv_at hl 0 rfl) ?_
    obtain ⟨v12, e12, h⟩ := bd1_some h
    refine x_vi (rest := []) (ws' := (wX5 cI ad deeds finding asked upper lower m_at wrong rowSize rows textSize texts spare now draft tried past kept keptPast keptDeeds findings worth)) hc hG (cc_X5_isAny ad deeds finding asked upper lower m_at wrong rowSize rows textSize texts spare now draft tried past kept keptPast keptDeeds findings worth v12 e12) [0, 1, 2, 3, 4, 5, 6, 7, 8, 9, 10, 11, 12, 13, 14] [] [0, 1, 2, 3, 4, 5, 6, 7, 8, 9, 10, 11, 12, 13, 14] rfl rfl rfl 0 rfl rfl lX5_186 ⟨rfl, rfl, by decide, by decide⟩ rfl hl.1 (Nat.le_of_ble_eq_true rfl) rfl dX5_duel_12 (fun H locs hG => ?_)
    refine lv_if_ne (tgt := 21) hx hb dX5_duel_15 (by decide) (fun c15 => ?_) (fun c15 => ?_)
    · rw [if_neg c15] at h
      refine lv_iconst (v := 1) hx hb dX5_duel_21 (by decide) ?_
      refine lv_istore_n (lv' := [(2, .int 1), (0, .ref (ad 0)), (1, .int x1)]) hx hb dX5_duel_22 rfl hl (by decide) rfl (fun ls hl => ?_)
      refine lv_iconst (v := 0) hx hb dX5_duel_23 (by decide) ?_
      refine lv_istore_n (lv' := [(3, .int 0), (2, .int 1), (0, .ref (ad 0)), (1, .int x1)]) hx hb dX5_duel_24 rfl hl (by decide) rfl (fun ls hl => ?_)
      obtain ⟨x2_L25, e25, h⟩ := bd1_some h
      refine hL_25 _ _ _ _ _ (fun ls H locs hl hG => ?_) _ _ _ e25 _ _ _ (lv_sub hl [2, 3, 1, 0] rfl) hG
      refine lv_iconst (v := 0) hx hb dX5_duel_43 (by decide) ?_
      refine lv_istore_n (lv' := [(3, .int 0), (0, .ref (ad 0)), (1, .int x1), (2, .int x2_L25)]) hx hb dX5_duel_44 rfl hl (by decide) rfl (fun ls hl => ?_)
      obtain ⟨tried_L45, worth_L45, e45, h⟩ := bd2_some h
      refine hL_45 _ _ _ _ _ (fun ls H locs hl hG => ?_) _ _ _ _ e45 _ _ _ (lv_sub hl [1, 2, 3, 0] rfl) hG
      refine lv_iconst (v := 2) hx hb dX5_duel_70 (by decide) ?_
      refine lv_iload_n hx hb dX5_duel_71 rfl (lv_at hl 1 rfl) ?_
      refine lv_imul hx hb dX5_duel_72 ?_
      refine lv_iconst (v := 1) hx hb dX5_duel_73 (by decide) ?_
      refine lv_isub hx hb dX5_duel_74 ?_
      refine lv_istore_n (lv' := [(3, .int ((2 * x1) - 1)), (0, .ref (ad 0)), (1, .int x1), (2, .int x2_L25)]) hx hb dX5_duel_75 rfl hl (by decide) rfl (fun ls hl => ?_)
      obtain ⟨worth_L76, e76, h⟩ := bd1_some h
      refine hL_76 _ _ _ (fun ls H locs hl hG => ?_) _ _ _ _ e76 _ _ _ (lv_sub hl [1, 3, 0] rfl) hG
      refine lv_aload_n hx hb dX5_duel_210 rfl (lv_at hl 0 rfl) ?_
      refine lv_aload_n hx hb dX5_duel_211 rfl (lv_at hl 0 rfl) ?_
      refine x_get hc hG 0 rfl iX5 20 lX5_53 rfl dX5_duel_212 ?_
      refine lv_iconst (v := 0) hx hb dX5_duel_215 (by decide) ?_
      obtain ⟨v216, e216, h⟩ := bd1_some h
      refine x_ald hc hG 14 rfl e216 dX5_duel_216 ?_
      obtain ⟨v217, asked_217, e217, h⟩ := bd2_some h
      refine x_vi (rest := []) (ws' := (wX5 cI ad deeds finding asked_217 upper lower m_at wrong rowSize rows textSize texts spare now draft tried_L45 past kept keptPast keptDeeds findings worth_L76)) hc hG (cc_X5_tells ad deeds finding asked upper lower m_at wrong rowSize rows textSize texts spare now draft tried_L45 past kept keptPast keptDeeds findings worth_L76 v216 v217 asked_217 e217) [0, 1, 2, 3, 4, 5, 6, 7, 8, 9, 10, 11, 12, 13, 14] [] [0, 1, 2, 3, 4, 5, 6, 7, 8, 9, 10, 11, 12, 13, 14] rfl rfl rfl 0 rfl rfl lX5_75 ⟨rfl, rfl, by decide, by decide⟩ rfl hl.1 (Nat.le_of_ble_eq_true rfl) rfl dX5_duel_217 (fun H locs hG => ?_)
      cases h
      exact hret _ _ _ _ hG dX5_duel_220 rfl
    · rw [if_pos c15] at h
      refine lv_bipush (v := (-4)) hx hb dX5_duel_18 (by decide) ?_
      cases h
      exact hret _ _ _ _ hG dX5_duel_20 rfl
  · rw [if_pos c6] at h
    refine lv_iconst (v := (-1)) hx hb dX5_duel_9 (by decide) ?_
    cases h
    exact hret _ _ _ _ hG dX5_duel_10 rfl
set_option maxRecDepth 100000 in
set_option maxHeartbeats 4000000 in
theorem cc_X5_told {l : Launch} {D : va_G} {cI : ClassId} {tL : Nat} (ad : Nat → Nat) (deeds : Int32) (finding : Int32) (asked : Int32) (upper : Int64) (lower : Int64) (m_at : Int32) (wrong : Int32) (rowSize : Nat → Int32) (rows : Nat → Int32) (textSize : Nat → Int32) (texts : Nat → Int32) (spare : Nat → Int32) (now : Nat → Int32) (draft : Nat → Int32) (tried : Nat → Int32) (past : Nat → Int32) (kept : Nat → Int32) (keptPast : Nat → Int32) (keptDeeds : Nat → Int32) (findings : Nat → Int32) (worth : Nat → Int32) (x1 : Int64) (x3 : Int64) (r' : Int32) (upper' : Int64) (lower' : Int64) (h : fX5_told x1 x3 = some (r', upper', lower')) : Ci l D cI tL yX5_told cX5_told 11 .int rmX5_told (wX5 cI ad deeds finding asked upper lower m_at wrong rowSize rows textSize texts spare now draft tried past kept keptPast keptDeeds findings worth) [.ref (ad 0), .long x1, .long x3] r' (wX5 cI ad deeds finding asked upper' lower' m_at wrong rowSize rows textSize texts spare now draft tried past kept keptPast keptDeeds findings worth) := by
  refine Ci_of (own := RX5) (by decide) (Nat.le_of_ble_eq_true rfl) rfl ?_
  intro p e s m below meth c Q A AV hc hret ls hl hG
  obtain ⟨hx, hb, hml, hown, hts, hK, hA, hz⟩ := id hc
  have hl : lv_has ls 11 [(0, .ref (ad 0)), (1, .long x1), (3, .long x3)] := hl
  have hL_6 : ∀ (upper : Int64) (lower : Int64) (x1 : Int64) (x3 : Int64) (x5_o : Int64), (∀ (ls : Array Slot) (H : Heap) (locs : List Loc), lv_has ls 11 [(0, .ref (ad 0)), (1, .long x1), (3, .long x3), (5, .long x5_o)] → St D A s (wX5 cI ad deeds finding asked upper lower m_at wrong rowSize rows textSize texts spare now draft tried past kept keptPast keptDeeds findings worth) H locs → W p l e rmX5_told s m AV below meth c H locs 0 0 Q (F0 m 31 ls [])) → ∀ (n : Nat) (x5 : Int64) (x7 : Int64), fX5_told_L6 n x5 x7 = some x5_o → ∀ (ls : Array Slot) (H : Heap) (locs : List Loc), lv_has ls 11 [(0, .ref (ad 0)), (1, .long x1), (3, .long x3), (5, .long x5), (7, .long x7)] → St D A s (wX5 cI ad deeds finding asked upper lower m_at wrong rowSize rows textSize texts spare now draft tried past kept keptPast keptDeeds findings worth) H locs → W p l e rmX5_told s m AV below meth c H locs 0 0 Q (F0 m 6 ls []) := by
    intro upper lower x1 x3 x5_o KE n
    induction n with
    | zero =>
      intro x5 x7 h
      exact nomatch (show none = some _ from h)
    | succ n ih =>
      intro x5 x7 h ls H locs hl hG
      have h : fX5_told_B6 (fX5_told_L6 n) x5 x7 = some x5_o := h
      unfold fX5_told_B6 at h
      refine lv_lload hx hb dX5_told_6 (lv_at hl 4 rfl) ?_
      refine lv_lconst (v := 0) hx hb dX5_told_8 (by decide) ?_
      refine W.lcmp hx hb dX5_told_9 ?_
      refine lv_if_eq (tgt := 31) hx hb dX5_told_10 (by decide) (fun c10 => ?_) (fun c10 => ?_)
      · rw [if_pos c10] at h
        cases h
        exact KE _ _ _ (lv_sub hl [0, 1, 2, 3] rfl) hG
      · rw [if_neg c10] at h
        refine lv_lload hx hb dX5_told_13 (lv_at hl 3 rfl) ?_
        refine lv_lload hx hb dX5_told_15 (lv_at hl 4 rfl) ?_
        by_cases c17 : x7 = 0
        · rw [if_pos c17] at h
          cases h
        · rw [if_neg c17] at h
          refine lv_lrem hx hb dX5_told_17 c17 ?_
          refine lv_lstore (lv' := [(9, .long (x5 - x5 / x7 * x7)), (0, .ref (ad 0)), (1, .long x1), (3, .long x3), (5, .long x5), (7, .long x7)]) hx hb dX5_told_18 hl (by decide) rfl (fun ls hl => ?_)
          refine lv_lload hx hb dX5_told_20 (lv_at hl 5 rfl) ?_
          refine lv_lstore (lv' := [(5, .long x7), (9, .long (x5 - x5 / x7 * x7)), (0, .ref (ad 0)), (1, .long x1), (3, .long x3), (7, .long x7)]) hx hb dX5_told_22 hl (by decide) rfl (fun ls hl => ?_)
          refine lv_lload hx hb dX5_told_24 (lv_at hl 1 rfl) ?_
          refine lv_lstore (lv' := [(7, .long (x5 - x5 / x7 * x7)), (5, .long x7), (9, .long (x5 - x5 / x7 * x7)), (0, .ref (ad 0)), (1, .long x1), (3, .long x3)]) hx hb dX5_told_26 hl (by decide) rfl (fun ls hl => ?_)
          refine lv_goto (tgt := 6) hx hb dX5_told_28 (by decide) ?_
          exact ih _ _ h _ _ _ (lv_sub hl [3, 4, 5, 1, 0] rfl) hG
  unfold fX5_told at h
  refine lv_lload_n hx hb dX5_told_0 rfl (lv_at hl 1 rfl) ?_
  refine lv_lstore (lv' := [(5, .long x1), (0, .ref (ad 0)), (1, .long x1), (3, .long x3)]) hx hb dX5_told_1 hl (by decide) rfl (fun ls hl => ?_)
  refine lv_lload_n hx hb dX5_told_3 rfl (lv_at hl 3 rfl) ?_
  refine lv_lstore (lv' := [(7, .long x3), (5, .long x1), (0, .ref (ad 0)), (1, .long x1), (3, .long x3)]) hx hb dX5_told_4 hl (by decide) rfl (fun ls hl => ?_)
  obtain ⟨x5_L6, e6, h⟩ := bd1_some h
  refine hL_6 _ _ _ _ _ (fun ls H locs hl hG => ?_) _ _ _ e6 _ _ _ (lv_sub hl [2, 3, 4, 1, 0] rfl) hG
  refine lv_aload_n hx hb dX5_told_31 rfl (lv_at hl 0 rfl) ?_
  refine lv_lload_n hx hb dX5_told_32 rfl (lv_at hl 1 rfl) ?_
  refine lv_lload hx hb dX5_told_33 (lv_at hl 3 rfl) ?_
  by_cases c35 : x5_L6 = 0
  · rw [if_pos c35] at h
    cases h
  · rw [if_neg c35] at h
    refine lv_ldiv hx hb dX5_told_35 c35 ?_
    refine x_put (ws' := (wX5 cI ad deeds finding asked (x1 / x5_L6) lower m_at wrong rowSize rows textSize texts spare now draft tried past kept keptPast keptDeeds findings worth)) hc hG 0 rfl iX5 tyX5 tyX5_ok nmX5 16 lX5_215 rfl rfl rfl (Nat.le_of_ble_eq_true rfl) rfl dX5_told_36 (fun H locs hG => ?_)
    refine lv_aload_n hx hb dX5_told_39 rfl (lv_at hl 0 rfl) ?_
    refine lv_lload_n hx hb dX5_told_40 rfl (lv_at hl 2 rfl) ?_
    refine lv_lload hx hb dX5_told_41 (lv_at hl 3 rfl) ?_
    by_cases c43 : x5_L6 = 0
    · rw [if_pos c43] at h
      cases h
    · rw [if_neg c43] at h
      refine lv_ldiv hx hb dX5_told_43 c43 ?_
      refine x_put (ws' := (wX5 cI ad deeds finding asked (x1 / x5_L6) (x3 / x5_L6) m_at wrong rowSize rows textSize texts spare now draft tried past kept keptPast keptDeeds findings worth)) hc hG 0 rfl iX5 tyX5 tyX5_ok nmX5 17 lX5_49 rfl rfl rfl (Nat.le_of_ble_eq_true rfl) rfl dX5_told_44 (fun H locs hG => ?_)
      refine lv_iconst (v := 1) hx hb dX5_told_47 (by decide) ?_
      cases h
      exact hret _ _ _ _ hG dX5_told_48 rfl
set_option maxRecDepth 100000 in
set_option maxHeartbeats 4000000 in
theorem cc_X5_chances {l : Launch} {D : va_G} {cI : ClassId} {tL : Nat} (ad : Nat → Nat) (deeds : Int32) (finding : Int32) (asked : Int32) (upper : Int64) (lower : Int64) (m_at : Int32) (wrong : Int32) (rowSize : Nat → Int32) (rows : Nat → Int32) (textSize : Nat → Int32) (texts : Nat → Int32) (spare : Nat → Int32) (now : Nat → Int32) (draft : Nat → Int32) (tried : Nat → Int32) (past : Nat → Int32) (kept : Nat → Int32) (keptPast : Nat → Int32) (keptDeeds : Nat → Int32) (findings : Nat → Int32) (worth : Nat → Int32) (x1 : Int32) (x2 : Int32) (r' : Int32) (upper' : Int64) (lower' : Int64) (h : fX5_chances now x1 x2 = some (r', upper', lower')) : Ci l D cI tL yX5_chances cX5_chances 11 .int rmX5_chances (wX5 cI ad deeds finding asked upper lower m_at wrong rowSize rows textSize texts spare now draft tried past kept keptPast keptDeeds findings worth) [.ref (ad 0), .int x1, .int x2] r' (wX5 cI ad deeds finding asked upper' lower' m_at wrong rowSize rows textSize texts spare now draft tried past kept keptPast keptDeeds findings worth) := by
  refine Ci_of (own := RX5) (by decide) (Nat.le_of_ble_eq_true rfl) rfl ?_
  intro p e s m below meth c Q A AV hc hret ls hl hG
  obtain ⟨hx, hb, hml, hown, hts, hK, hA, hz⟩ := id hc
  have hl : lv_has ls 11 [(0, .ref (ad 0)), (1, .int x1), (2, .int x2)] := hl
  have hL_8 : ∀ (upper : Int64) (lower : Int64) (x1 : Int32) (x2 : Int32) (x3 : Int64) (x5_o : Int64), (∀ (ls : Array Slot) (H : Heap) (locs : List Loc), lv_has ls 11 [(0, .ref (ad 0)), (1, .int x1), (2, .int x2), (3, .long x3), (5, .long x5_o)] → St D A s (wX5 cI ad deeds finding asked upper lower m_at wrong rowSize rows textSize texts spare now draft tried past kept keptPast keptDeeds findings worth) H locs → W p l e rmX5_chances s m AV below meth c H locs 0 0 Q (F0 m 46 ls [])) → ∀ (n : Nat) (x5 : Int64) (x7 : Int32), fX5_chances_L8 now n x5 x7 = some x5_o → ∀ (ls : Array Slot) (H : Heap) (locs : List Loc), lv_has ls 11 [(0, .ref (ad 0)), (1, .int x1), (2, .int x2), (3, .long x3), (5, .long x5), (7, .int x7)] → St D A s (wX5 cI ad deeds finding asked upper lower m_at wrong rowSize rows textSize texts spare now draft tried past kept keptPast keptDeeds findings worth) H locs → W p l e rmX5_chances s m AV below meth c H locs 0 0 Q (F0 m 8 ls []) := by
    intro upper lower x1 x2 x3 x5_o KE n
    induction n with
    | zero =>
      intro x5 x7 h
      exact nomatch (show none = some _ from h)
    | succ n ih =>
      intro x5 x7 h ls H locs hl hG
      have h : fX5_chances_B8 now (fX5_chances_L8 now n) x5 x7 = some x5_o := h
      have hj_37 : ∀ (x7 : Int32) (k0 : Int64) (k1 : Int64) , fX5_chances_j37 (fX5_chances_L8 now n) now x7 k0 k1 = some x5_o → ∀ (ls : Array Slot) (H : Heap) (locs : List Loc), lv_has ls 11 [(0, .ref (ad 0)), (1, .int x1), (2, .int x2), (3, .long x3), (7, .int x7)] → St D A s (wX5 cI ad deeds finding asked upper lower m_at wrong rowSize rows textSize texts spare now draft tried past kept keptPast keptDeeds findings worth) H locs → W p l e rmX5_chances s m AV below meth c H locs 0 0 Q (F0 m 37 ls [.long k1, .long k0]) := by
        intro x7 k0 k1 h ls H locs hl hG
        unfold fX5_chances_j37 at h
        refine lv_lmul hx hb dX5_chances_37 ?_
        refine lv_lstore (lv' := [(5, .long (k0 * k1)), (0, .ref (ad 0)), (1, .int x1), (2, .int x2), (3, .long x3), (7, .int x7)]) hx hb dX5_chances_38 hl (by decide) rfl (fun ls hl => ?_)
        refine lv_iinc (v := (x7 + 1)) (lv' := [(7, .int (x7 + 1)), (5, .long (k0 * k1)), (0, .ref (ad 0)), (1, .int x1), (2, .int x2), (3, .long x3)]) hx hb dX5_chances_40 hl (k := 5) rfl rfl (by decide) rfl (fun ls hl => ?_)
        refine lv_goto (tgt := 8) hx hb dX5_chances_43 (by decide) ?_
        exact ih _ _ h _ _ _ (lv_sub hl [2, 3, 4, 5, 1, 0] rfl) hG
      unfold fX5_chances_B8 at h
      refine lv_iload hx hb dX5_chances_8 (lv_at hl 5 rfl) ?_
      refine lv_aload_n hx hb dX5_chances_10 rfl (lv_at hl 0 rfl) ?_
      refine x_get hc hG 0 rfl iX5 5 lX5_25 rfl dX5_chances_11 ?_
      refine lv_iconst (v := 1) hx hb dX5_chances_14 (by decide) ?_
      obtain ⟨v15, e15, h⟩ := bd1_some h
      refine x_ald hc hG 6 rfl e15 dX5_chances_15 ?_
      refine lv_icmp_ge (tgt := 46) hx hb dX5_chances_16 (by decide) (fun c16 => ?_) (fun c16 => ?_)
      · rw [if_pos c16] at h
        cases h
        exact KE _ _ _ (lv_sub hl [0, 1, 2, 3, 4] rfl) hG
      · rw [if_neg c16] at h
        refine lv_lload hx hb dX5_chances_19 (lv_at hl 4 rfl) ?_
        refine lv_aload_n hx hb dX5_chances_21 rfl (lv_at hl 0 rfl) ?_
        refine lv_iload hx hb dX5_chances_22 (lv_at hl 5 rfl) ?_
        obtain ⟨v24, e24, h⟩ := bd1_some h
        refine x_vi (rest := [.long x5]) (ws' := (wX5 cI ad deeds finding asked upper lower m_at wrong rowSize rows textSize texts spare now draft tried past kept keptPast keptDeeds findings worth)) hc hG (cc_X5_isDown ad deeds finding asked upper lower m_at wrong rowSize rows textSize texts spare now draft tried past kept keptPast keptDeeds findings worth x7 v24 e24) [0, 1, 2, 3, 4, 5, 6, 7, 8, 9, 10, 11, 12, 13, 14] [] [0, 1, 2, 3, 4, 5, 6, 7, 8, 9, 10, 11, 12, 13, 14] rfl rfl rfl 0 rfl rfl lX5_209 ⟨rfl, rfl, by decide, by decide⟩ rfl hl.1 (Nat.le_of_ble_eq_true rfl) rfl dX5_chances_24 (fun H locs hG => ?_)
        refine lv_if_eq (tgt := 36) hx hb dX5_chances_27 (by decide) (fun c27 => ?_) (fun c27 => ?_)
        · rw [if_pos c27] at h
          refine lv_lconst (v := 1) hx hb dX5_chances_36 (by decide) ?_
          exact hj_37 _ _ _ h _ _ _ (lv_sub hl [0, 1, 2, 3, 5] rfl) hG
        · rw [if_neg c27] at h
          refine lv_ldc2 (v := 12) hx hb hown (hts _ kX5_231) dX5_chances_30 ?_
          refine lv_goto (tgt := 37) hx hb dX5_chances_33 (by decide) ?_
          exact hj_37 _ _ _ h _ _ _ (lv_sub hl [0, 1, 2, 3, 5] rfl) hG
  have hL_81 : ∀ (x2 : Int32) (x7 : Int32) (upper : Int64) (lower : Int64) (x1 : Int32) (x3 : Int64) (x5 : Int64) (x8_o : Int64), (∀ (ls : Array Slot) (H : Heap) (locs : List Loc), lv_has ls 11 [(0, .ref (ad 0)), (1, .int x1), (2, .int x2), (3, .long x3), (5, .long x5), (7, .int x7), (8, .long x8_o)] → St D A s (wX5 cI ad deeds finding asked upper lower m_at wrong rowSize rows textSize texts spare now draft tried past kept keptPast keptDeeds findings worth) H locs → W p l e rmX5_chances s m AV below meth c H locs 0 0 Q (F0 m 136 ls [])) → ∀ (n : Nat) (x8 : Int64) (x10 : Int32), fX5_chances_L81 now x2 x7 n x8 x10 = some x8_o → ∀ (ls : Array Slot) (H : Heap) (locs : List Loc), lv_has ls 11 [(0, .ref (ad 0)), (1, .int x1), (2, .int x2), (3, .long x3), (5, .long x5), (7, .int x7), (8, .long x8), (10, .int x10)] → St D A s (wX5 cI ad deeds finding asked upper lower m_at wrong rowSize rows textSize texts spare now draft tried past kept keptPast keptDeeds findings worth) H locs → W p l e rmX5_chances s m AV below meth c H locs 0 0 Q (F0 m 81 ls []) := by
    intro x2 x7 upper lower x1 x3 x5 x8_o KE n
    induction n with
    | zero =>
      intro x8 x10 h
      exact nomatch (show none = some _ from h)
    | succ n ih =>
      intro x8 x10 h ls H locs hl hG
      have h : fX5_chances_B81 now x2 x7 (fX5_chances_L81 now x2 x7 n) x8 x10 = some x8_o := h
      have hj_127 : ∀ (x10 : Int32) (k0 : Int64) (k1 : Int64) , fX5_chances_j127 (fX5_chances_L81 now x2 x7 n) now x2 x7 x10 k0 k1 = some x8_o → ∀ (ls : Array Slot) (H : Heap) (locs : List Loc), lv_has ls 11 [(0, .ref (ad 0)), (1, .int x1), (2, .int x2), (3, .long x3), (5, .long x5), (7, .int x7), (10, .int x10)] → St D A s (wX5 cI ad deeds finding asked upper lower m_at wrong rowSize rows textSize texts spare now draft tried past kept keptPast keptDeeds findings worth) H locs → W p l e rmX5_chances s m AV below meth c H locs 0 0 Q (F0 m 127 ls [.long k1, .long k0]) := by
        intro x10 k0 k1 h ls H locs hl hG
        unfold fX5_chances_j127 at h
        refine lv_lmul hx hb dX5_chances_127 ?_
        refine lv_lstore (lv' := [(8, .long (k0 * k1)), (0, .ref (ad 0)), (1, .int x1), (2, .int x2), (3, .long x3), (5, .long x5), (7, .int x7), (10, .int x10)]) hx hb dX5_chances_128 hl (by decide) rfl (fun ls hl => ?_)
        refine lv_iinc (v := (x10 + 1)) (lv' := [(10, .int (x10 + 1)), (8, .long (k0 * k1)), (0, .ref (ad 0)), (1, .int x1), (2, .int x2), (3, .long x3), (5, .long x5), (7, .int x7)]) hx hb dX5_chances_130 hl (k := 7) rfl rfl (by decide) rfl (fun ls hl => ?_)
        refine lv_goto (tgt := 81) hx hb dX5_chances_133 (by decide) ?_
        exact ih _ _ h _ _ _ (lv_sub hl [2, 3, 4, 5, 6, 7, 1, 0] rfl) hG
      unfold fX5_chances_B81 at h
      refine lv_iload hx hb dX5_chances_81 (lv_at hl 7 rfl) ?_
      refine lv_aload_n hx hb dX5_chances_83 rfl (lv_at hl 0 rfl) ?_
      refine x_get hc hG 0 rfl iX5 5 lX5_25 rfl dX5_chances_84 ?_
      refine lv_iconst (v := 1) hx hb dX5_chances_87 (by decide) ?_
      obtain ⟨v88, e88, h⟩ := bd1_some h
      refine x_ald hc hG 6 rfl e88 dX5_chances_88 ?_
      refine lv_icmp_ge (tgt := 136) hx hb dX5_chances_89 (by decide) (fun c89 => ?_) (fun c89 => ?_)
      · rw [if_pos c89] at h
        cases h
        exact KE _ _ _ (lv_sub hl [0, 1, 2, 3, 4, 5, 6] rfl) hG
      · rw [if_neg c89] at h
        refine lv_lload hx hb dX5_chances_92 (lv_at hl 6 rfl) ?_
        refine lv_aload_n hx hb dX5_chances_94 rfl (lv_at hl 0 rfl) ?_
        refine lv_iload hx hb dX5_chances_95 (lv_at hl 7 rfl) ?_
        obtain ⟨v97, e97, h⟩ := bd1_some h
        refine x_vi (rest := [.long x8]) (ws' := (wX5 cI ad deeds finding asked upper lower m_at wrong rowSize rows textSize texts spare now draft tried past kept keptPast keptDeeds findings worth)) hc hG (cc_X5_isDown ad deeds finding asked upper lower m_at wrong rowSize rows textSize texts spare now draft tried past kept keptPast keptDeeds findings worth x10 v97 e97) [0, 1, 2, 3, 4, 5, 6, 7, 8, 9, 10, 11, 12, 13, 14] [] [0, 1, 2, 3, 4, 5, 6, 7, 8, 9, 10, 11, 12, 13, 14] rfl rfl rfl 0 rfl rfl lX5_209 ⟨rfl, rfl, by decide, by decide⟩ rfl hl.1 (Nat.le_of_ble_eq_true rfl) rfl dX5_chances_97 (fun H locs hG => ?_)
        refine lv_if_ne (tgt := 107) hx hb dX5_chances_100 (by decide) (fun c100 => ?_) (fun c100 => ?_)
        · rw [if_neg c100] at h
          refine lv_iload hx hb dX5_chances_107 (lv_at hl 5 rfl) ?_
          refine lv_iload hx hb dX5_chances_109 (lv_at hl 7 rfl) ?_
          obtain ⟨v111, e111, h⟩ := bd1_some h
          refine x_si0 (rest := [.long x8]) hc hG (cc_X5_has x7 x10 v111 e111) lX5_140 ⟨rfl, rfl, by decide, by decide⟩ rfl hl.1 (Nat.le_of_ble_eq_true rfl) rfl dX5_chances_111 (fun H locs hG => ?_)
          refine lv_if_eq (tgt := 122) hx hb dX5_chances_114 (by decide) (fun c114 => ?_) (fun c114 => ?_)
          · rw [if_pos c114] at h
            refine lv_bipush (v := 12) hx hb dX5_chances_122 (by decide) ?_
            refine lv_iload_n hx hb dX5_chances_124 rfl (lv_at hl 2 rfl) ?_
            refine lv_isub hx hb dX5_chances_125 ?_
            refine lv_i2l hx hb dX5_chances_126 rfl ?_
            exact hj_127 _ _ _ h _ _ _ (lv_sub hl [0, 1, 2, 3, 4, 5, 7] rfl) hG
          · rw [if_neg c114] at h
            refine lv_iload_n hx hb dX5_chances_117 rfl (lv_at hl 2 rfl) ?_
            refine lv_i2l hx hb dX5_chances_118 rfl ?_
            refine lv_goto (tgt := 127) hx hb dX5_chances_119 (by decide) ?_
            exact hj_127 _ _ _ h _ _ _ (lv_sub hl [0, 1, 2, 3, 4, 5, 7] rfl) hG
        · rw [if_pos c100] at h
          refine lv_lconst (v := 1) hx hb dX5_chances_103 (by decide) ?_
          refine lv_goto (tgt := 127) hx hb dX5_chances_104 (by decide) ?_
          exact hj_127 _ _ _ h _ _ _ (lv_sub hl [0, 1, 2, 3, 4, 5, 7] rfl) hG
  have hL_49 : ∀ (x1 : Int32) (x2 : Int32) (upper : Int64) (lower : Int64) (x5 : Int64) (x3_o : Int64), (∀ (ls : Array Slot) (H : Heap) (locs : List Loc), lv_has ls 11 [(0, .ref (ad 0)), (3, .long x3_o), (5, .long x5)] → St D A s (wX5 cI ad deeds finding asked upper lower m_at wrong rowSize rows textSize texts spare now draft tried past kept keptPast keptDeeds findings worth) H locs → W p l e rmX5_chances s m AV below meth c H locs 0 0 Q (F0 m 185 ls [])) → ∀ (n : Nat) (x3 : Int64) (x7 : Int32), fX5_chances_L49 now x1 x2 n x3 x7 = some x3_o → ∀ (ls : Array Slot) (H : Heap) (locs : List Loc), lv_has ls 11 [(0, .ref (ad 0)), (1, .int x1), (2, .int x2), (3, .long x3), (5, .long x5), (7, .int x7)] → St D A s (wX5 cI ad deeds finding asked upper lower m_at wrong rowSize rows textSize texts spare now draft tried past kept keptPast keptDeeds findings worth) H locs → W p l e rmX5_chances s m AV below meth c H locs 0 0 Q (F0 m 49 ls []) := by
    intro x1 x2 upper lower x5 x3_o KE n
    induction n with
    | zero =>
      intro x3 x7 h
      exact nomatch (show none = some _ from h)
    | succ n ih =>
      intro x3 x7 h ls H locs hl hG
      have h : fX5_chances_B49 now x1 x2 (fX5_chances_L49 now x1 x2 n) x3 x7 = some x3_o := h
      have hj_179 : ∀ (x3 : Int64) (x7 : Int32) , fX5_chances_j179 (fX5_chances_L49 now x1 x2 n) now x1 x2 x3 x7 = some x3_o → ∀ (ls : Array Slot) (H : Heap) (locs : List Loc), lv_has ls 11 [(0, .ref (ad 0)), (1, .int x1), (2, .int x2), (3, .long x3), (5, .long x5), (7, .int x7)] → St D A s (wX5 cI ad deeds finding asked upper lower m_at wrong rowSize rows textSize texts spare now draft tried past kept keptPast keptDeeds findings worth) H locs → W p l e rmX5_chances s m AV below meth c H locs 0 0 Q (F0 m 179 ls []) := by
        intro x3 x7 h ls H locs hl hG
        unfold fX5_chances_j179 at h
        refine lv_iinc (v := (x7 + 1)) (lv' := [(7, .int (x7 + 1)), (0, .ref (ad 0)), (1, .int x1), (2, .int x2), (3, .long x3), (5, .long x5)]) hx hb dX5_chances_179 hl (k := 5) rfl rfl (by decide) rfl (fun ls hl => ?_)
        refine lv_goto (tgt := 49) hx hb dX5_chances_182 (by decide) ?_
        exact ih _ _ h _ _ _ (lv_sub hl [1, 2, 3, 4, 5, 0] rfl) hG
      have hj_175 : ∀ (x7 : Int32) (k0 : Int64) (k1 : Int64) (k2 : Int32) , fX5_chances_j175 (fX5_chances_L49 now x1 x2 n) now x1 x2 x7 k0 k1 k2 = some x3_o → ∀ (ls : Array Slot) (H : Heap) (locs : List Loc), lv_has ls 11 [(0, .ref (ad 0)), (1, .int x1), (2, .int x2), (5, .long x5), (7, .int x7)] → St D A s (wX5 cI ad deeds finding asked upper lower m_at wrong rowSize rows textSize texts spare now draft tried past kept keptPast keptDeeds findings worth) H locs → W p l e rmX5_chances s m AV below meth c H locs 0 0 Q (F0 m 175 ls [.int k2, .long k1, .long k0]) := by
        intro x7 k0 k1 k2 h ls H locs hl hG
        unfold fX5_chances_j175 at h
        refine lv_i2l hx hb dX5_chances_175 rfl ?_
        refine lv_lmul hx hb dX5_chances_176 ?_
        refine lv_ladd hx hb dX5_chances_177 ?_
        refine lv_lstore_n (lv' := [(3, .long (k0 + (k1 * (Int32.toInt64 k2)))), (0, .ref (ad 0)), (1, .int x1), (2, .int x2), (5, .long x5), (7, .int x7)]) hx hb dX5_chances_178 rfl hl (by decide) rfl (fun ls hl => ?_)
        exact hj_179 _ _ h _ _ _ (lv_sub hl [1, 2, 3, 0, 4, 5] rfl) hG
      unfold fX5_chances_B49 at h
      refine lv_iload hx hb dX5_chances_49 (lv_at hl 5 rfl) ?_
      refine lv_iconst (v := 1) hx hb dX5_chances_51 (by decide) ?_
      refine lv_aload_n hx hb dX5_chances_52 rfl (lv_at hl 0 rfl) ?_
      refine x_get hc hG 0 rfl iX5 5 lX5_25 rfl dX5_chances_53 ?_
      refine lv_iconst (v := 1) hx hb dX5_chances_56 (by decide) ?_
      obtain ⟨v57, e57, h⟩ := bd1_some h
      refine x_ald hc hG 6 rfl e57 dX5_chances_57 ?_
      refine lv_ishl hx hb dX5_chances_58 ?_
      refine lv_icmp_ge (tgt := 185) hx hb dX5_chances_59 (by decide) (fun c59 => ?_) (fun c59 => ?_)
      · rw [if_pos c59] at h
        cases h
        exact KE _ _ _ (lv_sub hl [0, 3, 4] rfl) hG
      · rw [if_neg c59] at h
        refine lv_iload hx hb dX5_chances_62 (lv_at hl 5 rfl) ?_
        refine lv_aload_n hx hb dX5_chances_64 rfl (lv_at hl 0 rfl) ?_
        refine x_get hc hG 0 rfl iX5 5 lX5_25 rfl dX5_chances_65 ?_
        obtain ⟨v68, e68, h⟩ := bd1_some h
        refine x_si (rest := [.int x7]) (ws' := (wX5 cI ad deeds finding asked upper lower m_at wrong rowSize rows textSize texts spare now draft tried past kept keptPast keptDeeds findings worth)) hc hG (cc_X5_lifted (fun k => ad (6 + k)) 35 now v68 e68) [6] [0, 1, 2, 3, 4, 5, 7, 8, 9, 10, 11, 12, 13, 14] [0, 1, 2, 3, 4, 5, 14, 6, 7, 8, 9, 10, 11, 12, 13] rfl rfl rfl lX5_233 ⟨rfl, rfl, by decide, by decide⟩ rfl hl.1 (Nat.le_of_ble_eq_true rfl) rfl dX5_chances_68 (fun H locs hG => ?_)
        refine lv_iand hx hb dX5_chances_71 ?_
        refine lv_if_ne (tgt := 179) hx hb dX5_chances_72 (by decide) (fun c72 => ?_) (fun c72 => ?_)
        · rw [if_neg c72] at h
          exact hj_179 _ _ h _ _ _ (lv_sub hl [0, 1, 2, 3, 4, 5] rfl) hG
        · rw [if_pos c72] at h
          refine lv_lconst (v := 1) hx hb dX5_chances_75 (by decide) ?_
          refine lv_lstore (lv' := [(8, .long 1), (0, .ref (ad 0)), (1, .int x1), (2, .int x2), (3, .long x3), (5, .long x5), (7, .int x7)]) hx hb dX5_chances_76 hl (by decide) rfl (fun ls hl => ?_)
          refine lv_iconst (v := 0) hx hb dX5_chances_78 (by decide) ?_
          refine lv_istore (lv' := [(10, .int 0), (8, .long 1), (0, .ref (ad 0)), (1, .int x1), (2, .int x2), (3, .long x3), (5, .long x5), (7, .int x7)]) hx hb dX5_chances_79 hl (by decide) rfl (fun ls hl => ?_)
          obtain ⟨x8_L81, e81, h⟩ := bd1_some h
          refine hL_81 _ _ _ _ _ _ _ _ (fun ls H locs hl hG => ?_) _ _ _ e81 _ _ _ (lv_sub hl [2, 3, 4, 5, 6, 7, 1, 0] rfl) hG
          refine lv_aload_n hx hb dX5_chances_136 rfl (lv_at hl 0 rfl) ?_
          refine x_get hc hG 0 rfl iX5 5 lX5_25 rfl dX5_chances_137 ?_
          refine lv_aload_n hx hb dX5_chances_140 rfl (lv_at hl 0 rfl) ?_
          refine x_get hc hG 0 rfl iX5 5 lX5_25 rfl dX5_chances_141 ?_
          refine lv_iload hx hb dX5_chances_144 (lv_at hl 5 rfl) ?_
          obtain ⟨v146, e146, h⟩ := bd1_some h
          refine x_si (rest := [.ref (ad 6)]) (ws' := (wX5 cI ad deeds finding asked upper lower m_at wrong rowSize rows textSize texts spare now draft tried past kept keptPast keptDeeds findings worth)) hc hG (cc_X5_coveredBut (fun k => ad (6 + k)) 35 now x7 v146 e146) [6] [0, 1, 2, 3, 4, 5, 7, 8, 9, 10, 11, 12, 13, 14] [0, 1, 2, 3, 4, 5, 14, 6, 7, 8, 9, 10, 11, 12, 13] rfl rfl rfl lX5_154 ⟨rfl, rfl, by decide, by decide⟩ rfl hl.1 (Nat.le_of_ble_eq_true rfl) rfl dX5_chances_146 (fun H locs hG => ?_)
          obtain ⟨v149, e149, h⟩ := bd1_some h
          refine x_si (rest := []) (ws' := (wX5 cI ad deeds finding asked upper lower m_at wrong rowSize rows textSize texts spare now draft tried past kept keptPast keptDeeds findings worth)) hc hG (cc_X5_linesOf (fun k => ad (6 + k)) 35 now v146 v149 e149) [6] [0, 1, 2, 3, 4, 5, 7, 8, 9, 10, 11, 12, 13, 14] [0, 1, 2, 3, 4, 5, 14, 6, 7, 8, 9, 10, 11, 12, 13] rfl rfl rfl lX5_157 ⟨rfl, rfl, by decide, by decide⟩ rfl hl.1 (Nat.le_of_ble_eq_true rfl) rfl dX5_chances_149 (fun H locs hG => ?_)
          refine lv_istore (lv' := [(10, .int v149), (0, .ref (ad 0)), (1, .int x1), (2, .int x2), (3, .long x3), (5, .long x5), (7, .int x7), (8, .long x8_L81)]) hx hb dX5_chances_152 hl (by decide) rfl (fun ls hl => ?_)
          refine lv_lload_n hx hb dX5_chances_154 rfl (lv_at hl 4 rfl) ?_
          refine lv_lload hx hb dX5_chances_155 (lv_at hl 7 rfl) ?_
          refine lv_iload_n hx hb dX5_chances_157 rfl (lv_at hl 2 rfl) ?_
          refine lv_if_ge (tgt := 169) hx hb dX5_chances_158 (by decide) (fun c158 => ?_) (fun c158 => ?_)
          · rw [if_pos c158] at h
            refine lv_iload hx hb dX5_chances_169 (lv_at hl 0 rfl) ?_
            refine lv_iload_n hx hb dX5_chances_171 rfl (lv_at hl 2 rfl) ?_
            refine lv_ishr hx hb dX5_chances_172 ?_
            refine lv_iconst (v := 1) hx hb dX5_chances_173 (by decide) ?_
            refine lv_iand hx hb dX5_chances_174 ?_
            exact hj_175 _ _ _ _ h _ _ _ (lv_sub hl [1, 2, 3, 5, 6] rfl) hG
          · rw [if_neg c158] at h
            refine lv_iload hx hb dX5_chances_161 (lv_at hl 0 rfl) ?_
            obtain ⟨v163, e163, h⟩ := bd1_some h
            refine x_si0 (rest := [.long x8_L81, .long x3]) hc hG (cc_X5_ones v149 v163 e163) lX5_151 ⟨rfl, rfl, by decide, by decide⟩ rfl hl.1 (Nat.le_of_ble_eq_true rfl) rfl dX5_chances_163 (fun H locs hG => ?_)
            refine lv_goto (tgt := 175) hx hb dX5_chances_166 (by decide) ?_
            exact hj_175 _ _ _ _ h _ _ _ (lv_sub hl [1, 2, 3, 5, 6] rfl) hG
  unfold fX5_chances at h
  refine lv_lconst (v := 0) hx hb dX5_chances_0 (by decide) ?_
  refine lv_lstore_n (lv' := [(3, .long 0), (0, .ref (ad 0)), (1, .int x1), (2, .int x2)]) hx hb dX5_chances_1 rfl hl (by decide) rfl (fun ls hl => ?_)
  refine lv_lconst (v := 1) hx hb dX5_chances_2 (by decide) ?_
  refine lv_lstore (lv' := [(5, .long 1), (3, .long 0), (0, .ref (ad 0)), (1, .int x1), (2, .int x2)]) hx hb dX5_chances_3 hl (by decide) rfl (fun ls hl => ?_)
  refine lv_iconst (v := 0) hx hb dX5_chances_5 (by decide) ?_
  refine lv_istore (lv' := [(7, .int 0), (5, .long 1), (3, .long 0), (0, .ref (ad 0)), (1, .int x1), (2, .int x2)]) hx hb dX5_chances_6 hl (by decide) rfl (fun ls hl => ?_)
  obtain ⟨x5_L8, e8, h⟩ := bd1_some h
  refine hL_8 _ _ _ _ _ _ (fun ls H locs hl hG => ?_) _ _ _ e8 _ _ _ (lv_sub hl [3, 4, 5, 2, 1, 0] rfl) hG
  refine lv_iconst (v := 0) hx hb dX5_chances_46 (by decide) ?_
  refine lv_istore (lv' := [(7, .int 0), (0, .ref (ad 0)), (1, .int x1), (2, .int x2), (3, .long 0), (5, .long x5_L8)]) hx hb dX5_chances_47 hl (by decide) rfl (fun ls hl => ?_)
  obtain ⟨x3_L49, e49, h⟩ := bd1_some h
  refine hL_49 _ _ _ _ _ _ (fun ls H locs hl hG => ?_) _ _ _ e49 _ _ _ (lv_sub hl [1, 2, 3, 4, 5, 0] rfl) hG
  refine lv_aload_n hx hb dX5_chances_185 rfl (lv_at hl 0 rfl) ?_
  refine lv_lload_n hx hb dX5_chances_186 rfl (lv_at hl 1 rfl) ?_
  refine lv_lload hx hb dX5_chances_187 (lv_at hl 2 rfl) ?_
  obtain ⟨v189, upper_189, lower_189, e189, h⟩ := bd3_some h
  refine x_vi (rest := []) (ws' := (wX5 cI ad deeds finding asked upper_189 lower_189 m_at wrong rowSize rows textSize texts spare now draft tried past kept keptPast keptDeeds findings worth)) hc hG (cc_X5_told ad deeds finding asked upper lower m_at wrong rowSize rows textSize texts spare now draft tried past kept keptPast keptDeeds findings worth x3_L49 x5_L8 v189 upper_189 lower_189 e189) [0, 1, 2, 3, 4, 5, 6, 7, 8, 9, 10, 11, 12, 13, 14] [] [0, 1, 2, 3, 4, 5, 6, 7, 8, 9, 10, 11, 12, 13, 14] rfl rfl rfl 0 rfl rfl lX5_236 ⟨rfl, rfl, by decide, by decide⟩ rfl hl.1 (Nat.le_of_ble_eq_true rfl) rfl dX5_chances_189 (fun H locs hG => ?_)
  cases h
  exact hret _ _ _ _ hG dX5_chances_192 rfl
