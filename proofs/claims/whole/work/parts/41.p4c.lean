set_option maxRecDepth 100000 in
set_option maxHeartbeats 4000000 in
theorem cc_X4_foundByTwo {l : Launch} {D : va_G} {cI : ClassId} {tL : Nat} (ad : Nat → Nat) (finding : Int32) (asked : Int32) (upper : Int64) (lower : Int64) (r_items : Nat → Int32) (r_sizes : Nat → Int32) (t_items : Nat → Int32) (t_sizes : Nat → Int32) (d_items : Nat → Int32) (d_sizes : Nat → Int32) (st_size : Int32) (st_need : Int32) (st_lifted : Int32) (st_licked : Int32) (st_morning : Int32) (st_tally : Int32) (st_kinds : Nat → Int32) (st_places : Nat → Int32) (st_lengths : Nat → Int32) (st_downs : Nat → Int32) (st_covers : Nat → Int32) (sl_size : Int32) (sl_need : Int32) (sl_lifted : Int32) (sl_licked : Int32) (sl_morning : Int32) (sl_tally : Int32) (sl_kinds : Nat → Int32) (sl_places : Nat → Int32) (sl_lengths : Nat → Int32) (sl_downs : Nat → Int32) (sl_covers : Nat → Int32) (as_size : Int32) (as_need : Int32) (as_lifted : Int32) (as_licked : Int32) (as_morning : Int32) (as_tally : Int32) (as_kinds : Nat → Int32) (as_places : Nat → Int32) (as_lengths : Nat → Int32) (as_downs : Nat → Int32) (as_covers : Nat → Int32) (text : Int32) (place : Int32) (count : Int32) (least : Int32) (inAll : Int32) (inSome : Int32) (scratch : Nat → Int32) (findings : Nat → Int32) (x1 : Int32) (x2 : Int32) (r' : Int32) (r_items' : Nat → Int32) (r_sizes' : Nat → Int32) (h : fX4_foundByTwo r_items r_sizes sl_size sl_need sl_lifted sl_licked sl_covers scratch x1 x2 = some (r', r_items', r_sizes')) : Ci l D cI tL yX4_foundByTwo cX4_foundByTwo 5 .boolean rmX4_foundByTwo (wX4 cI ad finding asked upper lower r_items r_sizes t_items t_sizes d_items d_sizes st_size st_need st_lifted st_licked st_morning st_tally st_kinds st_places st_lengths st_downs st_covers sl_size sl_need sl_lifted sl_licked sl_morning sl_tally sl_kinds sl_places sl_lengths sl_downs sl_covers as_size as_need as_lifted as_licked as_morning as_tally as_kinds as_places as_lengths as_downs as_covers text place count least inAll inSome scratch findings) [.ref (ad 0), .int x1, .int x2] r' (wX4 cI ad finding asked upper lower r_items' r_sizes' t_items t_sizes d_items d_sizes st_size st_need st_lifted st_licked st_morning st_tally st_kinds st_places st_lengths st_downs st_covers sl_size sl_need sl_lifted sl_licked sl_morning sl_tally sl_kinds sl_places sl_lengths sl_downs sl_covers as_size as_need as_lifted as_licked as_morning as_tally as_kinds as_places as_lengths as_downs as_covers text place count least inAll inSome scratch findings) := by
  refine Ci_of (own := RX4) (by decide) (Nat.le_of_ble_eq_true rfl) rfl ?_
  intro p e s m below meth c Q A AV hc hret ls hl hG
  obtain ⟨hx, hb, hml, hown, hts, hK, hA, hz⟩ := id hc
  have hl : lv_has ls 5 [(0, .ref (ad 0)), (1, .int x1), (2, .int x2)] := hl
  have hL_18 : ∀ (x1 : Int32) (x2 : Int32) (x3 : Int32) (o : ((Int32 × (Nat → Int32) × (Nat → Int32)) ⊕ ((Nat → Int32) × (Nat → Int32)))), (∀ (r : Int32) (r_items_r : Nat → Int32) (r_sizes_r : Nat → Int32), o = .inl (r, r_items_r, r_sizes_r) → ∀ (H : Heap) (locs : List Loc) (pc : Nat) (ls : Array Slot), St D A s (wX4 cI ad finding asked upper lower r_items_r r_sizes_r t_items t_sizes d_items d_sizes st_size st_need st_lifted st_licked st_morning st_tally st_kinds st_places st_lengths st_downs st_covers sl_size sl_need sl_lifted sl_licked sl_morning sl_tally sl_kinds sl_places sl_lengths sl_downs sl_covers as_size as_need as_lifted as_licked as_morning as_tally as_kinds as_places as_lengths as_downs as_covers text place count least inAll inSome scratch findings) H locs → decode cX4_foundByTwo pc = .ok (.ireturn, 1) → narrow .boolean (.int r) = .int r → W p l e rmX4_foundByTwo s m AV below meth c H locs 0 0 Q (F0 m pc ls [.int r])) → (∀ (r_items_o : Nat → Int32) (r_sizes_o : Nat → Int32), o = .inr (r_items_o, r_sizes_o) → ∀ (ls : Array Slot) (H : Heap) (locs : List Loc), lv_has ls 5 [(0, .ref (ad 0)), (1, .int x1), (2, .int x2), (3, .int x3)] → St D A s (wX4 cI ad finding asked upper lower r_items_o r_sizes_o t_items t_sizes d_items d_sizes st_size st_need st_lifted st_licked st_morning st_tally st_kinds st_places st_lengths st_downs st_covers sl_size sl_need sl_lifted sl_licked sl_morning sl_tally sl_kinds sl_places sl_lengths sl_downs sl_covers as_size as_need as_lifted as_licked as_morning as_tally as_kinds as_places as_lengths as_downs as_covers text place count least inAll inSome scratch findings) H locs → W p l e rmX4_foundByTwo s m AV below meth c H locs 0 0 Q (F0 m 73 ls [])) → ∀ (n : Nat) (r_items : Nat → Int32) (r_sizes : Nat → Int32) (x4 : Int32), fX4_foundByTwo_L18 sl_size sl_need sl_lifted sl_licked sl_covers scratch x1 x2 x3 n r_items r_sizes x4 = some o → ∀ (ls : Array Slot) (H : Heap) (locs : List Loc), lv_has ls 5 [(0, .ref (ad 0)), (1, .int x1), (2, .int x2), (3, .int x3), (4, .int x4)] → St D A s (wX4 cI ad finding asked upper lower r_items r_sizes t_items t_sizes d_items d_sizes st_size st_need st_lifted st_licked st_morning st_tally st_kinds st_places st_lengths st_downs st_covers sl_size sl_need sl_lifted sl_licked sl_morning sl_tally sl_kinds sl_places sl_lengths sl_downs sl_covers as_size as_need as_lifted as_licked as_morning as_tally as_kinds as_places as_lengths as_downs as_covers text place count least inAll inSome scratch findings) H locs → W p l e rmX4_foundByTwo s m AV below meth c H locs 0 0 Q (F0 m 18 ls []) := by
    intro x1 x2 x3 o KR KE n
    induction n with
    | zero =>
      intro r_items r_sizes x4 h
      exact nomatch (show none = some _ from h)
    | succ n ih =>
      intro r_items r_sizes x4 h ls H locs hl hG
      have h : fX4_foundByTwo_B18 sl_size sl_need sl_lifted sl_licked sl_covers scratch x1 x2 x3 (fX4_foundByTwo_L18 sl_size sl_need sl_lifted sl_licked sl_covers scratch x1 x2 x3 n) r_items r_sizes x4 = some o := h
      have hj_67 : ∀ (r_items : Nat → Int32) (r_sizes : Nat → Int32) (x4 : Int32) , fX4_foundByTwo_j67 (fX4_foundByTwo_L18 sl_size sl_need sl_lifted sl_licked sl_covers scratch x1 x2 x3 n) r_items r_sizes sl_size sl_need sl_lifted sl_licked sl_covers scratch x1 x2 x3 x4 = some o → ∀ (ls : Array Slot) (H : Heap) (locs : List Loc), lv_has ls 5 [(0, .ref (ad 0)), (1, .int x1), (2, .int x2), (3, .int x3), (4, .int x4)] → St D A s (wX4 cI ad finding asked upper lower r_items r_sizes t_items t_sizes d_items d_sizes st_size st_need st_lifted st_licked st_morning st_tally st_kinds st_places st_lengths st_downs st_covers sl_size sl_need sl_lifted sl_licked sl_morning sl_tally sl_kinds sl_places sl_lengths sl_downs sl_covers as_size as_need as_lifted as_licked as_morning as_tally as_kinds as_places as_lengths as_downs as_covers text place count least inAll inSome scratch findings) H locs → W p l e rmX4_foundByTwo s m AV below meth c H locs 0 0 Q (F0 m 67 ls []) := by
        intro r_items r_sizes x4 h ls H locs hl hG
        unfold fX4_foundByTwo_j67 at h
        refine lv_iinc (v := (x4 + 1)) (lv' := [(4, .int (x4 + 1)), (0, .ref (ad 0)), (1, .int x1), (2, .int x2), (3, .int x3)]) hx hb dX4_foundByTwo_67 hl (k := 4) rfl rfl (by decide) rfl (fun ls hl => ?_)
        refine lv_goto (tgt := 18) hx hb dX4_foundByTwo_70 (by decide) ?_
        exact ih _ _ _ h _ _ _ (lv_sub hl [1, 2, 3, 4, 0] rfl) hG
      unfold fX4_foundByTwo_B18 at h
      refine lv_iload hx hb dX4_foundByTwo_18 (lv_at hl 4 rfl) ?_
      refine lv_aload_n hx hb dX4_foundByTwo_20 rfl (lv_at hl 0 rfl) ?_
      refine x_get hc hG 0 rfl iX4 4 lX4_35 rfl dX4_foundByTwo_21 ?_
      refine x_getN hc hG 16 rfl iX3 5 lX4_118 rfl dX4_foundByTwo_24 ?_
      refine lv_icmp_ge (tgt := 73) hx hb dX4_foundByTwo_27 (by decide) (fun c27 => ?_) (fun c27 => ?_)
      · rw [if_pos c27] at h
        cases h
        exact KE _ _ rfl _ _ _ (lv_sub hl [0, 1, 2, 3] rfl) hG
      · rw [if_neg c27] at h
        refine lv_aload_n hx hb dX4_foundByTwo_30 rfl (lv_at hl 0 rfl) ?_
        refine x_get hc hG 0 rfl iX4 4 lX4_35 rfl dX4_foundByTwo_31 ?_
        refine lv_iload_n hx hb dX4_foundByTwo_34 rfl (lv_at hl 3 rfl) ?_
        obtain ⟨v35, e35, h⟩ := bd1_some h
        refine x_vi (rest := []) (ws' := (wX4 cI ad finding asked upper lower r_items r_sizes t_items t_sizes d_items d_sizes st_size st_need st_lifted st_licked st_morning st_tally st_kinds st_places st_lengths st_downs st_covers sl_size sl_need sl_lifted sl_licked sl_morning sl_tally sl_kinds sl_places sl_lengths sl_downs sl_covers as_size as_need as_lifted as_licked as_morning as_tally as_kinds as_places as_lengths as_downs as_covers text place count least inAll inSome scratch findings)) hc hG (cc_X3_isLifted (fun k => ad (16 + k)) sl_size sl_need sl_lifted sl_licked sl_morning sl_tally sl_kinds sl_places sl_lengths sl_downs sl_covers x3 v35 e35) [16, 17, 18, 19, 20, 21] [0, 1, 2, 3, 4, 5, 6, 7, 8, 9, 10, 11, 12, 13, 14, 15, 22, 23, 24, 25, 26, 27, 28, 29, 30, 31] [0, 1, 2, 3, 4, 5, 6, 7, 8, 9, 10, 11, 12, 13, 14, 15, 26, 27, 28, 29, 30, 31, 16, 17, 18, 19, 20, 21, 22, 23, 24, 25] rfl rfl rfl 16 rfl rfl lX4_320 ⟨rfl, rfl, by decide, by decide⟩ rfl hl.1 (Nat.le_of_ble_eq_true rfl) rfl dX4_foundByTwo_35 (fun H locs hG => ?_)
        refine lv_if_ne (tgt := 67) hx hb dX4_foundByTwo_38 (by decide) (fun c38 => ?_) (fun c38 => ?_)
        · rw [if_neg c38] at h
          exact hj_67 _ _ _ h _ _ _ (lv_sub hl [0, 1, 2, 3, 4] rfl) hG
        · rw [if_pos c38] at h
          refine lv_aload_n hx hb dX4_foundByTwo_41 rfl (lv_at hl 0 rfl) ?_
          refine x_get hc hG 0 rfl iX4 4 lX4_35 rfl dX4_foundByTwo_42 ?_
          refine lv_iload hx hb dX4_foundByTwo_45 (lv_at hl 4 rfl) ?_
          obtain ⟨v47, e47, h⟩ := bd1_some h
          refine x_vi (rest := []) (ws' := (wX4 cI ad finding asked upper lower r_items r_sizes t_items t_sizes d_items d_sizes st_size st_need st_lifted st_licked st_morning st_tally st_kinds st_places st_lengths st_downs st_covers sl_size sl_need sl_lifted sl_licked sl_morning sl_tally sl_kinds sl_places sl_lengths sl_downs sl_covers as_size as_need as_lifted as_licked as_morning as_tally as_kinds as_places as_lengths as_downs as_covers text place count least inAll inSome scratch findings)) hc hG (cc_X3_isLifted (fun k => ad (16 + k)) sl_size sl_need sl_lifted sl_licked sl_morning sl_tally sl_kinds sl_places sl_lengths sl_downs sl_covers x4 v47 e47) [16, 17, 18, 19, 20, 21] [0, 1, 2, 3, 4, 5, 6, 7, 8, 9, 10, 11, 12, 13, 14, 15, 22, 23, 24, 25, 26, 27, 28, 29, 30, 31] [0, 1, 2, 3, 4, 5, 6, 7, 8, 9, 10, 11, 12, 13, 14, 15, 26, 27, 28, 29, 30, 31, 16, 17, 18, 19, 20, 21, 22, 23, 24, 25] rfl rfl rfl 16 rfl rfl lX4_320 ⟨rfl, rfl, by decide, by decide⟩ rfl hl.1 (Nat.le_of_ble_eq_true rfl) rfl dX4_foundByTwo_47 (fun H locs hG => ?_)
          refine lv_if_ne (tgt := 67) hx hb dX4_foundByTwo_50 (by decide) (fun c50 => ?_) (fun c50 => ?_)
          · rw [if_neg c50] at h
            exact hj_67 _ _ _ h _ _ _ (lv_sub hl [0, 1, 2, 3, 4] rfl) hG
          · rw [if_pos c50] at h
            refine lv_aload_n hx hb dX4_foundByTwo_53 rfl (lv_at hl 0 rfl) ?_
            refine lv_iload_n hx hb dX4_foundByTwo_54 rfl (lv_at hl 1 rfl) ?_
            refine lv_iload_n hx hb dX4_foundByTwo_55 rfl (lv_at hl 3 rfl) ?_
            refine lv_iload hx hb dX4_foundByTwo_56 (lv_at hl 4 rfl) ?_
            refine lv_iload_n hx hb dX4_foundByTwo_58 rfl (lv_at hl 2 rfl) ?_
            obtain ⟨v59, r_items_59, r_sizes_59, e59, h⟩ := bd3_some h
            refine x_vi (rest := []) (ws' := (wX4 cI ad finding asked upper lower r_items_59 r_sizes_59 t_items t_sizes d_items d_sizes st_size st_need st_lifted st_licked st_morning st_tally st_kinds st_places st_lengths st_downs st_covers sl_size sl_need sl_lifted sl_licked sl_morning sl_tally sl_kinds sl_places sl_lengths sl_downs sl_covers as_size as_need as_lifted as_licked as_morning as_tally as_kinds as_places as_lengths as_downs as_covers text place count least inAll inSome scratch findings)) hc hG (cc_X4_foundByPair ad finding asked upper lower r_items r_sizes t_items t_sizes d_items d_sizes st_size st_need st_lifted st_licked st_morning st_tally st_kinds st_places st_lengths st_downs st_covers sl_size sl_need sl_lifted sl_licked sl_morning sl_tally sl_kinds sl_places sl_lengths sl_downs sl_covers as_size as_need as_lifted as_licked as_morning as_tally as_kinds as_places as_lengths as_downs as_covers text place count least inAll inSome scratch findings x1 x3 x4 x2 v59 r_items_59 r_sizes_59 e59) [0, 1, 2, 3, 4, 5, 6, 7, 8, 9, 10, 11, 12, 13, 14, 15, 16, 17, 18, 19, 20, 21, 22, 23, 24, 25, 26, 27, 28, 29, 30, 31] [] [0, 1, 2, 3, 4, 5, 6, 7, 8, 9, 10, 11, 12, 13, 14, 15, 16, 17, 18, 19, 20, 21, 22, 23, 24, 25, 26, 27, 28, 29, 30, 31] rfl rfl rfl 0 rfl rfl lX4_323 ⟨rfl, rfl, by decide, by decide⟩ rfl hl.1 (Nat.le_of_ble_eq_true rfl) rfl dX4_foundByTwo_59 (fun H locs hG => ?_)
            refine lv_if_eq (tgt := 67) hx hb dX4_foundByTwo_62 (by decide) (fun c62 => ?_) (fun c62 => ?_)
            · rw [if_pos c62] at h
              exact hj_67 _ _ _ h _ _ _ (lv_sub hl [0, 1, 2, 3, 4] rfl) hG
            · rw [if_neg c62] at h
              refine lv_iconst (v := 1) hx hb dX4_foundByTwo_65 (by decide) ?_
              cases h
              exact KR _ _ _ rfl _ _ _ _ hG dX4_foundByTwo_66 rfl
  have hL_2 : ∀ (x1 : Int32) (x2 : Int32) (o : ((Int32 × (Nat → Int32) × (Nat → Int32)) ⊕ ((Nat → Int32) × (Nat → Int32)))), (∀ (r : Int32) (r_items_r : Nat → Int32) (r_sizes_r : Nat → Int32), o = .inl (r, r_items_r, r_sizes_r) → ∀ (H : Heap) (locs : List Loc) (pc : Nat) (ls : Array Slot), St D A s (wX4 cI ad finding asked upper lower r_items_r r_sizes_r t_items t_sizes d_items d_sizes st_size st_need st_lifted st_licked st_morning st_tally st_kinds st_places st_lengths st_downs st_covers sl_size sl_need sl_lifted sl_licked sl_morning sl_tally sl_kinds sl_places sl_lengths sl_downs sl_covers as_size as_need as_lifted as_licked as_morning as_tally as_kinds as_places as_lengths as_downs as_covers text place count least inAll inSome scratch findings) H locs → decode cX4_foundByTwo pc = .ok (.ireturn, 1) → narrow .boolean (.int r) = .int r → W p l e rmX4_foundByTwo s m AV below meth c H locs 0 0 Q (F0 m pc ls [.int r])) → (∀ (r_items_o : Nat → Int32) (r_sizes_o : Nat → Int32), o = .inr (r_items_o, r_sizes_o) → ∀ (ls : Array Slot) (H : Heap) (locs : List Loc), lv_has ls 5 [(0, .ref (ad 0))] → St D A s (wX4 cI ad finding asked upper lower r_items_o r_sizes_o t_items t_sizes d_items d_sizes st_size st_need st_lifted st_licked st_morning st_tally st_kinds st_places st_lengths st_downs st_covers sl_size sl_need sl_lifted sl_licked sl_morning sl_tally sl_kinds sl_places sl_lengths sl_downs sl_covers as_size as_need as_lifted as_licked as_morning as_tally as_kinds as_places as_lengths as_downs as_covers text place count least inAll inSome scratch findings) H locs → W p l e rmX4_foundByTwo s m AV below meth c H locs 0 0 Q (F0 m 79 ls [])) → ∀ (n : Nat) (r_items : Nat → Int32) (r_sizes : Nat → Int32) (x3 : Int32), fX4_foundByTwo_L2 sl_size sl_need sl_lifted sl_licked sl_covers scratch x1 x2 n r_items r_sizes x3 = some o → ∀ (ls : Array Slot) (H : Heap) (locs : List Loc), lv_has ls 5 [(0, .ref (ad 0)), (1, .int x1), (2, .int x2), (3, .int x3)] → St D A s (wX4 cI ad finding asked upper lower r_items r_sizes t_items t_sizes d_items d_sizes st_size st_need st_lifted st_licked st_morning st_tally st_kinds st_places st_lengths st_downs st_covers sl_size sl_need sl_lifted sl_licked sl_morning sl_tally sl_kinds sl_places sl_lengths sl_downs sl_covers as_size as_need as_lifted as_licked as_morning as_tally as_kinds as_places as_lengths as_downs as_covers text place count least inAll inSome scratch findings) H locs → W p l e rmX4_foundByTwo s m AV below meth c H locs 0 0 Q (F0 m 2 ls []) := by
    intro x1 x2 o KR KE n
    induction n with
    | zero =>
      intro r_items r_sizes x3 h
      exact nomatch (show none = some _ from h)
    | succ n ih =>
      intro r_items r_sizes x3 h ls H locs hl hG
      have h : fX4_foundByTwo_B2 sl_size sl_need sl_lifted sl_licked sl_covers scratch x1 x2 (fX4_foundByTwo_L2 sl_size sl_need sl_lifted sl_licked sl_covers scratch x1 x2 n) r_items r_sizes x3 = some o := h
      unfold fX4_foundByTwo_B2 at h
      refine lv_iload_n hx hb dX4_foundByTwo_2 rfl (lv_at hl 3 rfl) ?_
      refine lv_aload_n hx hb dX4_foundByTwo_3 rfl (lv_at hl 0 rfl) ?_
      refine x_get hc hG 0 rfl iX4 4 lX4_35 rfl dX4_foundByTwo_4 ?_
      refine x_getN hc hG 16 rfl iX3 5 lX4_118 rfl dX4_foundByTwo_7 ?_
      refine lv_icmp_ge (tgt := 79) hx hb dX4_foundByTwo_10 (by decide) (fun c10 => ?_) (fun c10 => ?_)
      · rw [if_pos c10] at h
        cases h
        exact KE _ _ rfl _ _ _ (lv_sub hl [0] rfl) hG
      · rw [if_neg c10] at h
        refine lv_iload_n hx hb dX4_foundByTwo_13 rfl (lv_at hl 3 rfl) ?_
        refine lv_iconst (v := 1) hx hb dX4_foundByTwo_14 (by decide) ?_
        refine lv_iadd hx hb dX4_foundByTwo_15 ?_
        refine lv_istore (lv' := [(4, .int (x3 + 1)), (0, .ref (ad 0)), (1, .int x1), (2, .int x2), (3, .int x3)]) hx hb dX4_foundByTwo_16 hl (by decide) rfl (fun ls hl => ?_)
        rcases sl2_some h with e18 | ⟨r_items_L18, r_sizes_L18, e18, h⟩
        · obtain ⟨q, e18, rfl⟩ := e18
          exact hL_18 _ _ _ _ (fun _ _ _ e H locs pc ls hG d hn => by cases e; exact KR _ _ _ rfl _ _ _ _ hG d hn) (fun _ _ e => by cases e) _ _ _ _ e18 _ _ _ (lv_sub hl [1, 2, 3, 4, 0] rfl) hG
        · refine hL_18 _ _ _ _ (fun _ _ _ e => by cases e) (fun r_items_L18 r_sizes_L18 e ls H locs hl hG => ?_) _ _ _ _ e18 _ _ _ (lv_sub hl [1, 2, 3, 4, 0] rfl) hG
          cases e
          refine lv_iinc (v := (x3 + 1)) (lv' := [(3, .int (x3 + 1)), (0, .ref (ad 0)), (1, .int x1), (2, .int x2)]) hx hb dX4_foundByTwo_73 hl (k := 3) rfl rfl (by decide) rfl (fun ls hl => ?_)
          refine lv_goto (tgt := 2) hx hb dX4_foundByTwo_76 (by decide) ?_
          exact ih _ _ _ h _ _ _ (lv_sub hl [1, 2, 3, 0] rfl) hG
  unfold fX4_foundByTwo at h
  refine lv_iconst (v := 0) hx hb dX4_foundByTwo_0 (by decide) ?_
  refine lv_istore_n (lv' := [(3, .int 0), (0, .ref (ad 0)), (1, .int x1), (2, .int x2)]) hx hb dX4_foundByTwo_1 rfl hl (by decide) rfl (fun ls hl => ?_)
  rcases st2_some h with e2 | ⟨r_items_L2, r_sizes_L2, e2, h⟩
  · exact hL_2 _ _ _ (fun _ _ _ e H locs pc ls hG d hn => by cases e; exact hret _ _ _ _ hG d hn) (fun _ _ e => by cases e) _ _ _ _ e2 _ _ _ (lv_sub hl [1, 2, 3, 0] rfl) hG
  · refine hL_2 _ _ _ (fun _ _ _ e => by cases e) (fun r_items_L2 r_sizes_L2 e ls H locs hl hG => ?_) _ _ _ _ e2 _ _ _ (lv_sub hl [1, 2, 3, 0] rfl) hG
    cases e
    refine lv_iconst (v := 0) hx hb dX4_foundByTwo_79 (by decide) ?_
    cases h
    exact hret _ _ _ _ hG dX4_foundByTwo_80 rfl
set_option maxRecDepth 100000 in
set_option maxHeartbeats 4000000 in
theorem cc_X4_found {l : Launch} {D : va_G} {cI : ClassId} {tL : Nat} (ad : Nat → Nat) (finding : Int32) (asked : Int32) (upper : Int64) (lower : Int64) (r_items : Nat → Int32) (r_sizes : Nat → Int32) (t_items : Nat → Int32) (t_sizes : Nat → Int32) (d_items : Nat → Int32) (d_sizes : Nat → Int32) (st_size : Int32) (st_need : Int32) (st_lifted : Int32) (st_licked : Int32) (st_morning : Int32) (st_tally : Int32) (st_kinds : Nat → Int32) (st_places : Nat → Int32) (st_lengths : Nat → Int32) (st_downs : Nat → Int32) (st_covers : Nat → Int32) (sl_size : Int32) (sl_need : Int32) (sl_lifted : Int32) (sl_licked : Int32) (sl_morning : Int32) (sl_tally : Int32) (sl_kinds : Nat → Int32) (sl_places : Nat → Int32) (sl_lengths : Nat → Int32) (sl_downs : Nat → Int32) (sl_covers : Nat → Int32) (as_size : Int32) (as_need : Int32) (as_lifted : Int32) (as_licked : Int32) (as_morning : Int32) (as_tally : Int32) (as_kinds : Nat → Int32) (as_places : Nat → Int32) (as_lengths : Nat → Int32) (as_downs : Nat → Int32) (as_covers : Nat → Int32) (text : Int32) (place : Int32) (count : Int32) (least : Int32) (inAll : Int32) (inSome : Int32) (scratch : Nat → Int32) (findings : Nat → Int32) (x1 : Int32) (x2 : Int32) (r' : Int32) (r_items' : Nat → Int32) (r_sizes' : Nat → Int32) (scratch' : Nat → Int32) (h : fX4_found r_items r_sizes sl_size sl_need sl_lifted sl_licked sl_kinds sl_lengths sl_downs sl_covers scratch x1 x2 = some (r', r_items', r_sizes', scratch')) : Ci l D cI tL yX4_found cX4_found 3 .int rmX4_found (wX4 cI ad finding asked upper lower r_items r_sizes t_items t_sizes d_items d_sizes st_size st_need st_lifted st_licked st_morning st_tally st_kinds st_places st_lengths st_downs st_covers sl_size sl_need sl_lifted sl_licked sl_morning sl_tally sl_kinds sl_places sl_lengths sl_downs sl_covers as_size as_need as_lifted as_licked as_morning as_tally as_kinds as_places as_lengths as_downs as_covers text place count least inAll inSome scratch findings) [.ref (ad 0), .int x1, .int x2] r' (wX4 cI ad finding asked upper lower r_items' r_sizes' t_items t_sizes d_items d_sizes st_size st_need st_lifted st_licked st_morning st_tally st_kinds st_places st_lengths st_downs st_covers sl_size sl_need sl_lifted sl_licked sl_morning sl_tally sl_kinds sl_places sl_lengths sl_downs sl_covers as_size as_need as_lifted as_licked as_morning as_tally as_kinds as_places as_lengths as_downs as_covers text place count least inAll inSome scratch' findings) := by
  refine Ci_of (own := RX4) (by decide) (Nat.le_of_ble_eq_true rfl) rfl ?_
  intro p e s m below meth c Q A AV hc hret ls hl hG
  obtain ⟨hx, hb, hml, hown, hts, hK, hA, hz⟩ := id hc
  have hl : lv_has ls 3 [(0, .ref (ad 0)), (1, .int x1), (2, .int x2)] := hl
  unfold fX4_found at h
  refine lv_iload_n hx hb dX4_found_0 rfl (lv_at hl 1 rfl) ?_
  obtain ⟨v1, e1, h⟩ := bd1_some h
  refine x_si0 (rest := []) hc hG (cc_X4_areLines x1 v1 e1) lX4_196 ⟨rfl, rfl, by decide, by decide⟩ rfl hl.1 (Nat.le_of_ble_eq_true rfl) rfl dX4_found_1 (fun H locs hG => ?_)
  refine lv_if_eq (tgt := 14) hx hb dX4_found_4 (by decide) (fun c4 => ?_) (fun c4 => ?_)
  · rw [if_pos c4] at h
    refine lv_iconst (v := (-1)) hx hb dX4_found_14 (by decide) ?_
    cases h
    exact hret _ _ _ _ hG dX4_found_15 rfl
  · rw [if_neg c4] at h
    refine lv_iload_n hx hb dX4_found_7 rfl (lv_at hl 2 rfl) ?_
    obtain ⟨v8, e8, h⟩ := bd1_some h
    refine x_si0 (rest := []) hc hG (cc_X4_isRow x2 v8 e8) lX4_68 ⟨rfl, rfl, by decide, by decide⟩ rfl hl.1 (Nat.le_of_ble_eq_true rfl) rfl dX4_found_8 (fun H locs hG => ?_)
    refine lv_if_ne (tgt := 16) hx hb dX4_found_11 (by decide) (fun c11 => ?_) (fun c11 => ?_)
    · rw [if_neg c11] at h
      refine lv_aload_n hx hb dX4_found_16 rfl (lv_at hl 0 rfl) ?_
      refine x_get hc hG 0 rfl iX4 4 lX4_35 rfl dX4_found_17 ?_
      refine x_getN hc hG 16 rfl iX3 5 lX4_118 rfl dX4_found_20 ?_
      refine lv_if_ne (tgt := 29) hx hb dX4_found_23 (by decide) (fun c23 => ?_) (fun c23 => ?_)
      · rw [if_neg c23] at h
        refine lv_aload_n hx hb dX4_found_29 rfl (lv_at hl 0 rfl) ?_
        refine x_get hc hG 0 rfl iX4 4 lX4_35 rfl dX4_found_30 ?_
        refine lv_iload_n hx hb dX4_found_33 rfl (lv_at hl 1 rfl) ?_
        refine lv_aload_n hx hb dX4_found_34 rfl (lv_at hl 0 rfl) ?_
        refine x_get hc hG 0 rfl iX4 4 lX4_35 rfl dX4_found_35 ?_
        obtain ⟨v38, e38, h⟩ := bd1_some h
        refine x_vi (rest := [.int x1, .ref (ad 16)]) (ws' := (wX4 cI ad finding asked upper lower r_items r_sizes t_items t_sizes d_items d_sizes st_size st_need st_lifted st_licked st_morning st_tally st_kinds st_places st_lengths st_downs st_covers sl_size sl_need sl_lifted sl_licked sl_morning sl_tally sl_kinds sl_places sl_lengths sl_downs sl_covers as_size as_need as_lifted as_licked as_morning as_tally as_kinds as_places as_lengths as_downs as_covers text place count least inAll inSome scratch findings)) hc hG (cc_X3_coveredNow (fun k => ad (16 + k)) sl_size sl_need sl_lifted sl_licked sl_morning sl_tally sl_kinds sl_places sl_lengths sl_downs sl_covers v38 e38) [16, 17, 18, 19, 20, 21] [0, 1, 2, 3, 4, 5, 6, 7, 8, 9, 10, 11, 12, 13, 14, 15, 22, 23, 24, 25, 26, 27, 28, 29, 30, 31] [0, 1, 2, 3, 4, 5, 6, 7, 8, 9, 10, 11, 12, 13, 14, 15, 26, 27, 28, 29, 30, 31, 16, 17, 18, 19, 20, 21, 22, 23, 24, 25] rfl rfl rfl 16 rfl rfl lX4_181 ⟨rfl, rfl, by decide, by decide⟩ rfl hl.1 (Nat.le_of_ble_eq_true rfl) rfl dX4_found_38 (fun H locs hG => ?_)
        obtain ⟨v41, e41, h⟩ := bd1_some h
        refine x_vi (rest := []) (ws' := (wX4 cI ad finding asked upper lower r_items r_sizes t_items t_sizes d_items d_sizes st_size st_need st_lifted st_licked st_morning st_tally st_kinds st_places st_lengths st_downs st_covers sl_size sl_need sl_lifted sl_licked sl_morning sl_tally sl_kinds sl_places sl_lengths sl_downs sl_covers as_size as_need as_lifted as_licked as_morning as_tally as_kinds as_places as_lengths as_downs as_covers text place count least inAll inSome scratch findings)) hc hG (cc_X3_areRead (fun k => ad (16 + k)) sl_size sl_need sl_lifted sl_licked sl_morning sl_tally sl_kinds sl_places sl_lengths sl_downs sl_covers x1 v38 v41 e41) [16, 17, 18, 19, 20, 21] [0, 1, 2, 3, 4, 5, 6, 7, 8, 9, 10, 11, 12, 13, 14, 15, 22, 23, 24, 25, 26, 27, 28, 29, 30, 31] [0, 1, 2, 3, 4, 5, 6, 7, 8, 9, 10, 11, 12, 13, 14, 15, 26, 27, 28, 29, 30, 31, 16, 17, 18, 19, 20, 21, 22, 23, 24, 25] rfl rfl rfl 16 rfl rfl lX4_199 ⟨rfl, rfl, by decide, by decide⟩ rfl hl.1 (Nat.le_of_ble_eq_true rfl) rfl dX4_found_41 (fun H locs hG => ?_)
        refine lv_if_eq (tgt := 59) hx hb dX4_found_44 (by decide) (fun c44 => ?_) (fun c44 => ?_)
        · rw [if_pos c44] at h
          refine lv_aload_n hx hb dX4_found_59 rfl (lv_at hl 0 rfl) ?_
          obtain ⟨scratch_60, e60, h⟩ := bd1_some h
          refine x_vv (rest := []) (ws' := (wX4 cI ad finding asked upper lower r_items r_sizes t_items t_sizes d_items d_sizes st_size st_need st_lifted st_licked st_morning st_tally st_kinds st_places st_lengths st_downs st_covers sl_size sl_need sl_lifted sl_licked sl_morning sl_tally sl_kinds sl_places sl_lengths sl_downs sl_covers as_size as_need as_lifted as_licked as_morning as_tally as_kinds as_places as_lengths as_downs as_covers text place count least inAll inSome scratch_60 findings)) hc hG (cc_X4_layOutCovers ad finding asked upper lower r_items r_sizes t_items t_sizes d_items d_sizes st_size st_need st_lifted st_licked st_morning st_tally st_kinds st_places st_lengths st_downs st_covers sl_size sl_need sl_lifted sl_licked sl_morning sl_tally sl_kinds sl_places sl_lengths sl_downs sl_covers as_size as_need as_lifted as_licked as_morning as_tally as_kinds as_places as_lengths as_downs as_covers text place count least inAll inSome scratch findings scratch_60 e60) [0, 1, 2, 3, 4, 5, 6, 7, 8, 9, 10, 11, 12, 13, 14, 15, 16, 17, 18, 19, 20, 21, 22, 23, 24, 25, 26, 27, 28, 29, 30, 31] [] [0, 1, 2, 3, 4, 5, 6, 7, 8, 9, 10, 11, 12, 13, 14, 15, 16, 17, 18, 19, 20, 21, 22, 23, 24, 25, 26, 27, 28, 29, 30, 31] rfl rfl rfl 0 rfl rfl lX4_202 ⟨rfl, rfl, by decide, by decide⟩ rfl hl.1 (Nat.le_of_ble_eq_true rfl) rfl dX4_found_60 (fun H locs hG => ?_)
          refine lv_aload_n hx hb dX4_found_63 rfl (lv_at hl 0 rfl) ?_
          refine lv_iload_n hx hb dX4_found_64 rfl (lv_at hl 1 rfl) ?_
          refine lv_iload_n hx hb dX4_found_65 rfl (lv_at hl 2 rfl) ?_
          obtain ⟨v66, r_items_66, r_sizes_66, e66, h⟩ := bd3_some h
          refine x_vi (rest := []) (ws' := (wX4 cI ad finding asked upper lower r_items_66 r_sizes_66 t_items t_sizes d_items d_sizes st_size st_need st_lifted st_licked st_morning st_tally st_kinds st_places st_lengths st_downs st_covers sl_size sl_need sl_lifted sl_licked sl_morning sl_tally sl_kinds sl_places sl_lengths sl_downs sl_covers as_size as_need as_lifted as_licked as_morning as_tally as_kinds as_places as_lengths as_downs as_covers text place count least inAll inSome scratch_60 findings)) hc hG (cc_X4_foundByOne ad finding asked upper lower r_items r_sizes t_items t_sizes d_items d_sizes st_size st_need st_lifted st_licked st_morning st_tally st_kinds st_places st_lengths st_downs st_covers sl_size sl_need sl_lifted sl_licked sl_morning sl_tally sl_kinds sl_places sl_lengths sl_downs sl_covers as_size as_need as_lifted as_licked as_morning as_tally as_kinds as_places as_lengths as_downs as_covers text place count least inAll inSome scratch_60 findings x1 x2 v66 r_items_66 r_sizes_66 e66) [0, 1, 2, 3, 4, 5, 6, 7, 8, 9, 10, 11, 12, 13, 14, 15, 16, 17, 18, 19, 20, 21, 22, 23, 24, 25, 26, 27, 28, 29, 30, 31] [] [0, 1, 2, 3, 4, 5, 6, 7, 8, 9, 10, 11, 12, 13, 14, 15, 16, 17, 18, 19, 20, 21, 22, 23, 24, 25, 26, 27, 28, 29, 30, 31] rfl rfl rfl 0 rfl rfl lX4_205 ⟨rfl, rfl, by decide, by decide⟩ rfl hl.1 (Nat.le_of_ble_eq_true rfl) rfl dX4_found_66 (fun H locs hG => ?_)
          refine lv_if_eq (tgt := 74) hx hb dX4_found_69 (by decide) (fun c69 => ?_) (fun c69 => ?_)
          · rw [if_pos c69] at h
            refine lv_aload_n hx hb dX4_found_74 rfl (lv_at hl 0 rfl) ?_
            refine lv_iload_n hx hb dX4_found_75 rfl (lv_at hl 1 rfl) ?_
            refine lv_iload_n hx hb dX4_found_76 rfl (lv_at hl 2 rfl) ?_
            obtain ⟨v77, r_items_77, r_sizes_77, e77, h⟩ := bd3_some h
            refine x_vi (rest := []) (ws' := (wX4 cI ad finding asked upper lower r_items_77 r_sizes_77 t_items t_sizes d_items d_sizes st_size st_need st_lifted st_licked st_morning st_tally st_kinds st_places st_lengths st_downs st_covers sl_size sl_need sl_lifted sl_licked sl_morning sl_tally sl_kinds sl_places sl_lengths sl_downs sl_covers as_size as_need as_lifted as_licked as_morning as_tally as_kinds as_places as_lengths as_downs as_covers text place count least inAll inSome scratch_60 findings)) hc hG (cc_X4_foundByTwo ad finding asked upper lower r_items_66 r_sizes_66 t_items t_sizes d_items d_sizes st_size st_need st_lifted st_licked st_morning st_tally st_kinds st_places st_lengths st_downs st_covers sl_size sl_need sl_lifted sl_licked sl_morning sl_tally sl_kinds sl_places sl_lengths sl_downs sl_covers as_size as_need as_lifted as_licked as_morning as_tally as_kinds as_places as_lengths as_downs as_covers text place count least inAll inSome scratch_60 findings x1 x2 v77 r_items_77 r_sizes_77 e77) [0, 1, 2, 3, 4, 5, 6, 7, 8, 9, 10, 11, 12, 13, 14, 15, 16, 17, 18, 19, 20, 21, 22, 23, 24, 25, 26, 27, 28, 29, 30, 31] [] [0, 1, 2, 3, 4, 5, 6, 7, 8, 9, 10, 11, 12, 13, 14, 15, 16, 17, 18, 19, 20, 21, 22, 23, 24, 25, 26, 27, 28, 29, 30, 31] rfl rfl rfl 0 rfl rfl lX4_208 ⟨rfl, rfl, by decide, by decide⟩ rfl hl.1 (Nat.le_of_ble_eq_true rfl) rfl dX4_found_77 (fun H locs hG => ?_)
            refine lv_if_eq (tgt := 87) hx hb dX4_found_80 (by decide) (fun c80 => ?_) (fun c80 => ?_)
            · rw [if_pos c80] at h
              refine lv_bipush (v := (-9)) hx hb dX4_found_87 (by decide) ?_
              cases h
              exact hret _ _ _ _ hG dX4_found_89 rfl
            · rw [if_neg c80] at h
              refine lv_iconst (v := 2) hx hb dX4_found_83 (by decide) ?_
              refine lv_goto (tgt := 89) hx hb dX4_found_84 (by decide) ?_
              cases h
              exact hret _ _ _ _ hG dX4_found_89 rfl
          · rw [if_neg c69] at h
            refine lv_iconst (v := 1) hx hb dX4_found_72 (by decide) ?_
            cases h
            exact hret _ _ _ _ hG dX4_found_73 rfl
        · rw [if_neg c44] at h
          refine lv_aload_n hx hb dX4_found_47 rfl (lv_at hl 0 rfl) ?_
          refine x_get hc hG 0 rfl iX4 0 lX4_14 rfl dX4_found_48 ?_
          refine lv_iload_n hx hb dX4_found_51 rfl (lv_at hl 2 rfl) ?_
          refine lv_iconst (v := 0) hx hb dX4_found_52 (by decide) ?_
          refine lv_iconst (v := 0) hx hb dX4_found_53 (by decide) ?_
          obtain ⟨r_items_54, r_sizes_54, e54, h⟩ := bd2_some h
          refine x_vv (rest := []) (ws' := (wX4 cI ad finding asked upper lower r_items_54 r_sizes_54 t_items t_sizes d_items d_sizes st_size st_need st_lifted st_licked st_morning st_tally st_kinds st_places st_lengths st_downs st_covers sl_size sl_need sl_lifted sl_licked sl_morning sl_tally sl_kinds sl_places sl_lengths sl_downs sl_covers as_size as_need as_lifted as_licked as_morning as_tally as_kinds as_places as_lengths as_downs as_covers text place count least inAll inSome scratch findings)) hc hG (cc_X2_make (fun k => ad (1 + k)) 240 6 40 r_items r_sizes x2 0 0 r_items_54 r_sizes_54 e54) [1, 2, 3] [0, 4, 5, 6, 7, 8, 9, 10, 11, 12, 13, 14, 15, 16, 17, 18, 19, 20, 21, 22, 23, 24, 25, 26, 27, 28, 29, 30, 31] [0, 29, 30, 31, 1, 2, 3, 4, 5, 6, 7, 8, 9, 10, 11, 12, 13, 14, 15, 16, 17, 18, 19, 20, 21, 22, 23, 24, 25, 26, 27, 28] rfl rfl rfl 1 rfl rfl lX4_24 ⟨rfl, rfl, by decide, by decide⟩ rfl hl.1 (Nat.le_of_ble_eq_true rfl) rfl dX4_found_54 (fun H locs hG => ?_)
          refine lv_iconst (v := 0) hx hb dX4_found_57 (by decide) ?_
          cases h
          exact hret _ _ _ _ hG dX4_found_58 rfl
      · rw [if_pos c23] at h
        refine lv_bipush (v := (-4)) hx hb dX4_found_26 (by decide) ?_
        cases h
        exact hret _ _ _ _ hG dX4_found_28 rfl
    · rw [if_pos c11] at h
      refine lv_iconst (v := (-1)) hx hb dX4_found_14 (by decide) ?_
      cases h
      exact hret _ _ _ _ hG dX4_found_15 rfl
set_option maxRecDepth 100000 in
set_option maxHeartbeats 4000000 in
theorem cc_X4_best {l : Launch} {D : va_G} {cI : ClassId} {tL : Nat} (ad : Nat → Nat) (finding : Int32) (asked : Int32) (upper : Int64) (lower : Int64) (r_items : Nat → Int32) (r_sizes : Nat → Int32) (t_items : Nat → Int32) (t_sizes : Nat → Int32) (d_items : Nat → Int32) (d_sizes : Nat → Int32) (st_size : Int32) (st_need : Int32) (st_lifted : Int32) (st_licked : Int32) (st_morning : Int32) (st_tally : Int32) (st_kinds : Nat → Int32) (st_places : Nat → Int32) (st_lengths : Nat → Int32) (st_downs : Nat → Int32) (st_covers : Nat → Int32) (sl_size : Int32) (sl_need : Int32) (sl_lifted : Int32) (sl_licked : Int32) (sl_morning : Int32) (sl_tally : Int32) (sl_kinds : Nat → Int32) (sl_places : Nat → Int32) (sl_lengths : Nat → Int32) (sl_downs : Nat → Int32) (sl_covers : Nat → Int32) (as_size : Int32) (as_need : Int32) (as_lifted : Int32) (as_licked : Int32) (as_morning : Int32) (as_tally : Int32) (as_kinds : Nat → Int32) (as_places : Nat → Int32) (as_lengths : Nat → Int32) (as_downs : Nat → Int32) (as_covers : Nat → Int32) (text : Int32) (place : Int32) (count : Int32) (least : Int32) (inAll : Int32) (inSome : Int32) (scratch : Nat → Int32) (findings : Nat → Int32) (x1 : Int32) (r' : Int32) (asked' : Int32) (h : fX4_best asked sl_size sl_need sl_lifted sl_licked sl_kinds sl_lengths sl_downs sl_covers x1 = some (r', asked')) : Ci l D cI tL yX4_best cX4_best 8 .int rmX4_best (wX4 cI ad finding asked upper lower r_items r_sizes t_items t_sizes d_items d_sizes st_size st_need st_lifted st_licked st_morning st_tally st_kinds st_places st_lengths st_downs st_covers sl_size sl_need sl_lifted sl_licked sl_morning sl_tally sl_kinds sl_places sl_lengths sl_downs sl_covers as_size as_need as_lifted as_licked as_morning as_tally as_kinds as_places as_lengths as_downs as_covers text place count least inAll inSome scratch findings) [.ref (ad 0), .int x1] r' (wX4 cI ad finding asked' upper lower r_items r_sizes t_items t_sizes d_items d_sizes st_size st_need st_lifted st_licked st_morning st_tally st_kinds st_places st_lengths st_downs st_covers sl_size sl_need sl_lifted sl_licked sl_morning sl_tally sl_kinds sl_places sl_lengths sl_downs sl_covers as_size as_need as_lifted as_licked as_morning as_tally as_kinds as_places as_lengths as_downs as_covers text place count least inAll inSome scratch findings) := by
  refine Ci_of (own := RX4) (by decide) (Nat.le_of_ble_eq_true rfl) rfl ?_
  intro p e s m below meth c Q A AV hc hret ls hl hG
  obtain ⟨hx, hb, hml, hown, hts, hK, hA, hz⟩ := id hc
  have hl : lv_has ls 8 [(0, .ref (ad 0)), (1, .int x1)] := hl
  have hL_31 : ∀ (x1 : Int32) (x2 : Int32) (asked : Int32) (x3_o : Int32) (x4_o : Int32), (∀ (ls : Array Slot) (H : Heap) (locs : List Loc), lv_has ls 8 [(0, .ref (ad 0)), (3, .int x3_o), (4, .int x4_o)] → St D A s (wX4 cI ad finding asked upper lower r_items r_sizes t_items t_sizes d_items d_sizes st_size st_need st_lifted st_licked st_morning st_tally st_kinds st_places st_lengths st_downs st_covers sl_size sl_need sl_lifted sl_licked sl_morning sl_tally sl_kinds sl_places sl_lengths sl_downs sl_covers as_size as_need as_lifted as_licked as_morning as_tally as_kinds as_places as_lengths as_downs as_covers text place count least inAll inSome scratch findings) H locs → W p l e rmX4_best s m AV below meth c H locs 0 0 Q (F0 m 104 ls [])) → ∀ (n : Nat) (x3 : Int32) (x4 : Int32) (x5 : Int32), fX4_best_L31 sl_size sl_need sl_licked sl_kinds sl_lengths sl_downs x1 x2 n x3 x4 x5 = some (x3_o, x4_o) → ∀ (ls : Array Slot) (H : Heap) (locs : List Loc), lv_has ls 8 [(0, .ref (ad 0)), (1, .int x1), (2, .int x2), (3, .int x3), (4, .int x4), (5, .int x5)] → St D A s (wX4 cI ad finding asked upper lower r_items r_sizes t_items t_sizes d_items d_sizes st_size st_need st_lifted st_licked st_morning st_tally st_kinds st_places st_lengths st_downs st_covers sl_size sl_need sl_lifted sl_licked sl_morning sl_tally sl_kinds sl_places sl_lengths sl_downs sl_covers as_size as_need as_lifted as_licked as_morning as_tally as_kinds as_places as_lengths as_downs as_covers text place count least inAll inSome scratch findings) H locs → W p l e rmX4_best s m AV below meth c H locs 0 0 Q (F0 m 31 ls []) := by
    intro x1 x2 asked x3_o x4_o KE n
    induction n with
    | zero =>
      intro x3 x4 x5 h
      exact nomatch (show none = some _ from h)
    | succ n ih =>
      intro x3 x4 x5 h ls H locs hl hG
      have h : fX4_best_B31 sl_size sl_need sl_licked sl_kinds sl_lengths sl_downs x1 x2 (fX4_best_L31 sl_size sl_need sl_licked sl_kinds sl_lengths sl_downs x1 x2 n) x3 x4 x5 = some (x3_o, x4_o) := h
      have hj_98 : ∀ (x3 : Int32) (x4 : Int32) (x5 : Int32) , fX4_best_j98 (fX4_best_L31 sl_size sl_need sl_licked sl_kinds sl_lengths sl_downs x1 x2 n) sl_size sl_need sl_licked sl_kinds sl_lengths sl_downs x1 x2 x3 x4 x5 = some (x3_o, x4_o) → ∀ (ls : Array Slot) (H : Heap) (locs : List Loc), lv_has ls 8 [(0, .ref (ad 0)), (1, .int x1), (2, .int x2), (3, .int x3), (4, .int x4), (5, .int x5)] → St D A s (wX4 cI ad finding asked upper lower r_items r_sizes t_items t_sizes d_items d_sizes st_size st_need st_lifted st_licked st_morning st_tally st_kinds st_places st_lengths st_downs st_covers sl_size sl_need sl_lifted sl_licked sl_morning sl_tally sl_kinds sl_places sl_lengths sl_downs sl_covers as_size as_need as_lifted as_licked as_morning as_tally as_kinds as_places as_lengths as_downs as_covers text place count least inAll inSome scratch findings) H locs → W p l e rmX4_best s m AV below meth c H locs 0 0 Q (F0 m 98 ls []) := by
        intro x3 x4 x5 h ls H locs hl hG
        unfold fX4_best_j98 at h
        refine lv_iinc (v := (x5 + 1)) (lv' := [(5, .int (x5 + 1)), (0, .ref (ad 0)), (1, .int x1), (2, .int x2), (3, .int x3), (4, .int x4)]) hx hb dX4_best_98 hl (k := 5) rfl rfl (by decide) rfl (fun ls hl => ?_)
        refine lv_goto (tgt := 31) hx hb dX4_best_101 (by decide) ?_
        exact ih _ _ _ h _ _ _ (lv_sub hl [1, 2, 3, 4, 5, 0] rfl) hG
      unfold fX4_best_B31 at h
      refine lv_iload hx hb dX4_best_31 (lv_at hl 5 rfl) ?_
      refine lv_bipush (v := 16) hx hb dX4_best_33 (by decide) ?_
      refine lv_icmp_ge (tgt := 104) hx hb dX4_best_35 (by decide) (fun c35 => ?_) (fun c35 => ?_)
      · rw [if_pos c35] at h
        cases h
        exact KE _ _ _ (lv_sub hl [0, 3, 4] rfl) hG
      · rw [if_neg c35] at h
        refine lv_iload_n hx hb dX4_best_38 rfl (lv_at hl 2 rfl) ?_
        refine lv_aload_n hx hb dX4_best_39 rfl (lv_at hl 0 rfl) ?_
        refine x_get hc hG 0 rfl iX4 4 lX4_35 rfl dX4_best_40 ?_
        refine lv_iload_n hx hb dX4_best_43 rfl (lv_at hl 1 rfl) ?_
        refine lv_iload hx hb dX4_best_44 (lv_at hl 5 rfl) ?_
        refine lv_aload_n hx hb dX4_best_46 rfl (lv_at hl 0 rfl) ?_
        refine x_get hc hG 0 rfl iX4 4 lX4_35 rfl dX4_best_47 ?_
        refine lv_iload_n hx hb dX4_best_50 rfl (lv_at hl 1 rfl) ?_
        obtain ⟨v51, e51, h⟩ := bd1_some h
        refine x_vi (rest := [.int x5, .int x1, .ref (ad 16), .int x2]) (ws' := (wX4 cI ad finding asked upper lower r_items r_sizes t_items t_sizes d_items d_sizes st_size st_need st_lifted st_licked st_morning st_tally st_kinds st_places st_lengths st_downs st_covers sl_size sl_need sl_lifted sl_licked sl_morning sl_tally sl_kinds sl_places sl_lengths sl_downs sl_covers as_size as_need as_lifted as_licked as_morning as_tally as_kinds as_places as_lengths as_downs as_covers text place count least inAll inSome scratch findings)) hc hG (cc_X3_downOf (fun k => ad (16 + k)) sl_size sl_need sl_lifted sl_licked sl_morning sl_tally sl_kinds sl_places sl_lengths sl_downs sl_covers x1 v51 e51) [16, 17, 18, 19, 20, 21] [0, 1, 2, 3, 4, 5, 6, 7, 8, 9, 10, 11, 12, 13, 14, 15, 22, 23, 24, 25, 26, 27, 28, 29, 30, 31] [0, 1, 2, 3, 4, 5, 6, 7, 8, 9, 10, 11, 12, 13, 14, 15, 26, 27, 28, 29, 30, 31, 16, 17, 18, 19, 20, 21, 22, 23, 24, 25] rfl rfl rfl 16 rfl rfl lX4_149 ⟨rfl, rfl, by decide, by decide⟩ rfl hl.1 (Nat.le_of_ble_eq_true rfl) rfl dX4_best_51 (fun H locs hG => ?_)
        obtain ⟨v54, e54, h⟩ := bd1_some h
        refine x_vi (rest := [.int x2]) (ws' := (wX4 cI ad finding asked upper lower r_items r_sizes t_items t_sizes d_items d_sizes st_size st_need st_lifted st_licked st_morning st_tally st_kinds st_places st_lengths st_downs st_covers sl_size sl_need sl_lifted sl_licked sl_morning sl_tally sl_kinds sl_places sl_lengths sl_downs sl_covers as_size as_need as_lifted as_licked as_morning as_tally as_kinds as_places as_lengths as_downs as_covers text place count least inAll inSome scratch findings)) hc hG (cc_X3_coverAt (fun k => ad (16 + k)) sl_size sl_need sl_lifted sl_licked sl_morning sl_tally sl_kinds sl_places sl_lengths sl_downs sl_covers x1 x5 v51 v54 e54) [16, 17, 18, 19, 20, 21] [0, 1, 2, 3, 4, 5, 6, 7, 8, 9, 10, 11, 12, 13, 14, 15, 22, 23, 24, 25, 26, 27, 28, 29, 30, 31] [0, 1, 2, 3, 4, 5, 6, 7, 8, 9, 10, 11, 12, 13, 14, 15, 26, 27, 28, 29, 30, 31, 16, 17, 18, 19, 20, 21, 22, 23, 24, 25] rfl rfl rfl 16 rfl rfl lX4_174 ⟨rfl, rfl, by decide, by decide⟩ rfl hl.1 (Nat.le_of_ble_eq_true rfl) rfl dX4_best_54 (fun H locs hG => ?_)
        refine lv_ior hx hb dX4_best_57 ?_
        refine lv_istore (lv' := [(6, .int (x2 ||| v54)), (0, .ref (ad 0)), (1, .int x1), (2, .int x2), (3, .int x3), (4, .int x4), (5, .int x5)]) hx hb dX4_best_58 hl (by decide) rfl (fun ls hl => ?_)
        refine lv_aload_n hx hb dX4_best_60 rfl (lv_at hl 1 rfl) ?_
        refine x_get hc hG 0 rfl iX4 4 lX4_35 rfl dX4_best_61 ?_
        refine lv_iload hx hb dX4_best_64 (lv_at hl 0 rfl) ?_
        refine lv_aload_n hx hb dX4_best_66 rfl (lv_at hl 1 rfl) ?_
        refine x_get hc hG 0 rfl iX4 4 lX4_35 rfl dX4_best_67 ?_
        refine x_getN hc hG 16 rfl iX3 8 lX4_161 rfl dX4_best_70 ?_
        refine lv_iconst (v := (-1)) hx hb dX4_best_73 (by decide) ?_
        refine lv_ixor hx hb dX4_best_74 ?_
        refine lv_iand hx hb dX4_best_75 ?_
        obtain ⟨v76, e76, h⟩ := bd1_some h
        refine x_vi (rest := []) (ws' := (wX4 cI ad finding asked upper lower r_items r_sizes t_items t_sizes d_items d_sizes st_size st_need st_lifted st_licked st_morning st_tally st_kinds st_places st_lengths st_downs st_covers sl_size sl_need sl_lifted sl_licked sl_morning sl_tally sl_kinds sl_places sl_lengths sl_downs sl_covers as_size as_need as_lifted as_licked as_morning as_tally as_kinds as_places as_lengths as_downs as_covers text place count least inAll inSome scratch findings)) hc hG (cc_X3_linesBy (fun k => ad (16 + k)) sl_size sl_need sl_lifted sl_licked sl_morning sl_tally sl_kinds sl_places sl_lengths sl_downs sl_covers ((x2 ||| v54) &&& (sl_licked ^^^ (-1))) v76 e76) [16, 17, 18, 19, 20, 21] [0, 1, 2, 3, 4, 5, 6, 7, 8, 9, 10, 11, 12, 13, 14, 15, 22, 23, 24, 25, 26, 27, 28, 29, 30, 31] [0, 1, 2, 3, 4, 5, 6, 7, 8, 9, 10, 11, 12, 13, 14, 15, 26, 27, 28, 29, 30, 31, 16, 17, 18, 19, 20, 21, 22, 23, 24, 25] rfl rfl rfl 16 rfl rfl lX4_214 ⟨rfl, rfl, by decide, by decide⟩ rfl hl.1 (Nat.le_of_ble_eq_true rfl) rfl dX4_best_76 (fun H locs hG => ?_)
        refine x_si0 (rest := []) hc hG (cJ_bitc v76) lX4_217 ⟨rfl, rfl, by decide, by decide⟩ rfl hl.1 (Nat.le_of_ble_eq_true rfl) rfl dX4_best_79 (fun H locs hG => ?_)
        refine lv_istore (lv' := [(7, .int (bitc v76)), (6, .int (x2 ||| v54)), (0, .ref (ad 0)), (1, .int x1), (2, .int x2), (3, .int x3), (4, .int x4), (5, .int x5)]) hx hb dX4_best_82 hl (by decide) rfl (fun ls hl => ?_)
        refine lv_iload hx hb dX4_best_84 (lv_at hl 0 rfl) ?_
        refine lv_iload hx hb dX4_best_86 (lv_at hl 6 rfl) ?_
        refine lv_icmp_le (tgt := 98) hx hb dX4_best_88 (by decide) (fun c88 => ?_) (fun c88 => ?_)
        · rw [if_pos c88] at h
          exact hj_98 _ _ _ h _ _ _ (lv_sub hl [2, 3, 4, 5, 6, 7] rfl) hG
        · rw [if_neg c88] at h
          refine lv_iload hx hb dX4_best_91 (lv_at hl 0 rfl) ?_
          refine lv_istore (lv' := [(4, .int (bitc v76)), (7, .int (bitc v76)), (6, .int (x2 ||| v54)), (0, .ref (ad 0)), (1, .int x1), (2, .int x2), (3, .int x3), (5, .int x5)]) hx hb dX4_best_93 hl (by decide) rfl (fun ls hl => ?_)
          refine lv_iload hx hb dX4_best_95 (lv_at hl 7 rfl) ?_
          refine lv_istore_n (lv' := [(3, .int x5), (4, .int (bitc v76)), (7, .int (bitc v76)), (6, .int (x2 ||| v54)), (0, .ref (ad 0)), (1, .int x1), (2, .int x2), (5, .int x5)]) hx hb dX4_best_97 rfl hl (by decide) rfl (fun ls hl => ?_)
          exact hj_98 _ _ _ h _ _ _ (lv_sub hl [4, 5, 6, 0, 1, 7] rfl) hG
  unfold fX4_best at h
  refine lv_aload_n hx hb dX4_best_0 rfl (lv_at hl 0 rfl) ?_
  refine x_get hc hG 0 rfl iX4 4 lX4_35 rfl dX4_best_1 ?_
  refine lv_iload_n hx hb dX4_best_4 rfl (lv_at hl 1 rfl) ?_
  obtain ⟨v5, e5, h⟩ := bd1_some h
  refine x_vi (rest := []) (ws' := (wX4 cI ad finding asked upper lower r_items r_sizes t_items t_sizes d_items d_sizes st_size st_need st_lifted st_licked st_morning st_tally st_kinds st_places st_lengths st_downs st_covers sl_size sl_need sl_lifted sl_licked sl_morning sl_tally sl_kinds sl_places sl_lengths sl_downs sl_covers as_size as_need as_lifted as_licked as_morning as_tally as_kinds as_places as_lengths as_downs as_covers text place count least inAll inSome scratch findings)) hc hG (cc_X3_has (fun k => ad (16 + k)) sl_size sl_need sl_lifted sl_licked sl_morning sl_tally sl_kinds sl_places sl_lengths sl_downs sl_covers x1 v5 e5) [16, 17, 18, 19, 20, 21] [0, 1, 2, 3, 4, 5, 6, 7, 8, 9, 10, 11, 12, 13, 14, 15, 22, 23, 24, 25, 26, 27, 28, 29, 30, 31] [0, 1, 2, 3, 4, 5, 6, 7, 8, 9, 10, 11, 12, 13, 14, 15, 26, 27, 28, 29, 30, 31, 16, 17, 18, 19, 20, 21, 22, 23, 24, 25] rfl rfl rfl 16 rfl rfl lX4_122 ⟨rfl, rfl, by decide, by decide⟩ rfl hl.1 (Nat.le_of_ble_eq_true rfl) rfl dX4_best_5 (fun H locs hG => ?_)
  refine lv_if_ne (tgt := 13) hx hb dX4_best_8 (by decide) (fun c8 => ?_) (fun c8 => ?_)
  · rw [if_neg c8] at h
    refine lv_aload_n hx hb dX4_best_13 rfl (lv_at hl 0 rfl) ?_
    refine x_get hc hG 0 rfl iX4 4 lX4_35 rfl dX4_best_14 ?_
    refine lv_iload_n hx hb dX4_best_17 rfl (lv_at hl 1 rfl) ?_
    refine lv_iload_n hx hb dX4_best_18 rfl (lv_at hl 1 rfl) ?_
    obtain ⟨v19, e19, h⟩ := bd1_some h
    refine x_vi (rest := []) (ws' := (wX4 cI ad finding asked upper lower r_items r_sizes t_items t_sizes d_items d_sizes st_size st_need st_lifted st_licked st_morning st_tally st_kinds st_places st_lengths st_downs st_covers sl_size sl_need sl_lifted sl_licked sl_morning sl_tally sl_kinds sl_places sl_lengths sl_downs sl_covers as_size as_need as_lifted as_licked as_morning as_tally as_kinds as_places as_lengths as_downs as_covers text place count least inAll inSome scratch findings)) hc hG (cc_X3_coverOfAllBut (fun k => ad (16 + k)) sl_size sl_need sl_lifted sl_licked sl_morning sl_tally sl_kinds sl_places sl_lengths sl_downs sl_covers x1 x1 v19 e19) [16, 17, 18, 19, 20, 21] [0, 1, 2, 3, 4, 5, 6, 7, 8, 9, 10, 11, 12, 13, 14, 15, 22, 23, 24, 25, 26, 27, 28, 29, 30, 31] [0, 1, 2, 3, 4, 5, 6, 7, 8, 9, 10, 11, 12, 13, 14, 15, 26, 27, 28, 29, 30, 31, 16, 17, 18, 19, 20, 21, 22, 23, 24, 25] rfl rfl rfl 16 rfl rfl lX4_211 ⟨rfl, rfl, by decide, by decide⟩ rfl hl.1 (Nat.le_of_ble_eq_true rfl) rfl dX4_best_19 (fun H locs hG => ?_)
    refine lv_istore_n (lv' := [(2, .int v19), (0, .ref (ad 0)), (1, .int x1)]) hx hb dX4_best_22 rfl hl (by decide) rfl (fun ls hl => ?_)
    refine lv_iconst (v := 0) hx hb dX4_best_23 (by decide) ?_
    refine lv_istore_n (lv' := [(3, .int 0), (2, .int v19), (0, .ref (ad 0)), (1, .int x1)]) hx hb dX4_best_24 rfl hl (by decide) rfl (fun ls hl => ?_)
    refine lv_iconst (v := (-1)) hx hb dX4_best_25 (by decide) ?_
    refine lv_istore (lv' := [(4, .int (-1)), (3, .int 0), (2, .int v19), (0, .ref (ad 0)), (1, .int x1)]) hx hb dX4_best_26 hl (by decide) rfl (fun ls hl => ?_)
    refine lv_iconst (v := 0) hx hb dX4_best_28 (by decide) ?_
    refine lv_istore (lv' := [(5, .int 0), (4, .int (-1)), (3, .int 0), (2, .int v19), (0, .ref (ad 0)), (1, .int x1)]) hx hb dX4_best_29 hl (by decide) rfl (fun ls hl => ?_)
    obtain ⟨x3_L31, x4_L31, e31, h⟩ := bd2_some h
    refine hL_31 _ _ _ _ _ (fun ls H locs hl hG => ?_) _ _ _ _ e31 _ _ _ (lv_sub hl [4, 5, 3, 2, 1, 0] rfl) hG
    refine lv_aload_n hx hb dX4_best_104 rfl (lv_at hl 0 rfl) ?_
    refine lv_iload hx hb dX4_best_105 (lv_at hl 2 rfl) ?_
    refine x_put (ws' := (wX4 cI ad finding x4_L31 upper lower r_items r_sizes t_items t_sizes d_items d_sizes st_size st_need st_lifted st_licked st_morning st_tally st_kinds st_places st_lengths st_downs st_covers sl_size sl_need sl_lifted sl_licked sl_morning sl_tally sl_kinds sl_places sl_lengths sl_downs sl_covers as_size as_need as_lifted as_licked as_morning as_tally as_kinds as_places as_lengths as_downs as_covers text place count least inAll inSome scratch findings)) hc hG 0 rfl iX4 tyX4 tyX4_ok nmX4 11 lX4_178 rfl rfl rfl (Nat.le_of_ble_eq_true rfl) rfl dX4_best_107 (fun H locs hG => ?_)
    refine lv_iload_n hx hb dX4_best_110 rfl (lv_at hl 1 rfl) ?_
    cases h
    exact hret _ _ _ _ hG dX4_best_111 rfl
  · rw [if_pos c8] at h
    refine lv_iconst (v := (-1)) hx hb dX4_best_11 (by decide) ?_
    cases h
    exact hret _ _ _ _ hG dX4_best_12 rfl
set_option maxRecDepth 100000 in
set_option maxHeartbeats 4000000 in
theorem cc_X4_fitGapSets {l : Launch} {D : va_G} {cI : ClassId} {tL : Nat} (ad : Nat → Nat) (finding : Int32) (asked : Int32) (upper : Int64) (lower : Int64) (r_items : Nat → Int32) (r_sizes : Nat → Int32) (t_items : Nat → Int32) (t_sizes : Nat → Int32) (d_items : Nat → Int32) (d_sizes : Nat → Int32) (st_size : Int32) (st_need : Int32) (st_lifted : Int32) (st_licked : Int32) (st_morning : Int32) (st_tally : Int32) (st_kinds : Nat → Int32) (st_places : Nat → Int32) (st_lengths : Nat → Int32) (st_downs : Nat → Int32) (st_covers : Nat → Int32) (sl_size : Int32) (sl_need : Int32) (sl_lifted : Int32) (sl_licked : Int32) (sl_morning : Int32) (sl_tally : Int32) (sl_kinds : Nat → Int32) (sl_places : Nat → Int32) (sl_lengths : Nat → Int32) (sl_downs : Nat → Int32) (sl_covers : Nat → Int32) (as_size : Int32) (as_need : Int32) (as_lifted : Int32) (as_licked : Int32) (as_morning : Int32) (as_tally : Int32) (as_kinds : Nat → Int32) (as_places : Nat → Int32) (as_lengths : Nat → Int32) (as_downs : Nat → Int32) (as_covers : Nat → Int32) (text : Int32) (place : Int32) (count : Int32) (least : Int32) (inAll : Int32) (inSome : Int32) (scratch : Nat → Int32) (findings : Nat → Int32) (x1 : Int32) (count' : Int32) (least' : Int32) (inAll' : Int32) (inSome' : Int32) (h : fX4_fitGapSets sl_size sl_need sl_lifted sl_licked sl_covers x1 = some (count', least', inAll', inSome')) : Cv l D cI tL yX4_fitGapSets cX4_fitGapSets 5 rmX4_fitGapSets (wX4 cI ad finding asked upper lower r_items r_sizes t_items t_sizes d_items d_sizes st_size st_need st_lifted st_licked st_morning st_tally st_kinds st_places st_lengths st_downs st_covers sl_size sl_need sl_lifted sl_licked sl_morning sl_tally sl_kinds sl_places sl_lengths sl_downs sl_covers as_size as_need as_lifted as_licked as_morning as_tally as_kinds as_places as_lengths as_downs as_covers text place count least inAll inSome scratch findings) [.ref (ad 0), .int x1] (wX4 cI ad finding asked upper lower r_items r_sizes t_items t_sizes d_items d_sizes st_size st_need st_lifted st_licked st_morning st_tally st_kinds st_places st_lengths st_downs st_covers sl_size sl_need sl_lifted sl_licked sl_morning sl_tally sl_kinds sl_places sl_lengths sl_downs sl_covers as_size as_need as_lifted as_licked as_morning as_tally as_kinds as_places as_lengths as_downs as_covers text place count' least' inAll' inSome' scratch findings) := by
  refine Cv_of (own := RX4) (by decide) (Nat.le_of_ble_eq_true rfl) rfl ?_
  intro p e s m below meth c Q A AV hc hret ls hl hG
  obtain ⟨hx, hb, hml, hown, hts, hK, hA, hz⟩ := id hc
  have hl : lv_has ls 5 [(0, .ref (ad 0)), (1, .int x1)] := hl
  have hL_20 : ∀ (x1 : Int32) (x2 : Int32) (count_o : Int32) (least_o : Int32) (inAll_o : Int32) (inSome_o : Int32), (∀ (ls : Array Slot) (H : Heap) (locs : List Loc), lv_has ls 5 [(0, .ref (ad 0))] → St D A s (wX4 cI ad finding asked upper lower r_items r_sizes t_items t_sizes d_items d_sizes st_size st_need st_lifted st_licked st_morning st_tally st_kinds st_places st_lengths st_downs st_covers sl_size sl_need sl_lifted sl_licked sl_morning sl_tally sl_kinds sl_places sl_lengths sl_downs sl_covers as_size as_need as_lifted as_licked as_morning as_tally as_kinds as_places as_lengths as_downs as_covers text place count_o least_o inAll_o inSome_o scratch findings) H locs → W p l e rmX4_fitGapSets s m AV below meth c H locs 0 0 Q (F0 m 81 ls [])) → ∀ (n : Nat) (count : Int32) (least : Int32) (inAll : Int32) (inSome : Int32) (x3 : Int32) (x4 : Int32), fX4_fitGapSets_L20 sl_size sl_need sl_licked x1 x2 n count least inAll inSome x3 x4 = some (count_o, least_o, inAll_o, inSome_o) → ∀ (ls : Array Slot) (H : Heap) (locs : List Loc), lv_has ls 5 [(0, .ref (ad 0)), (1, .int x1), (2, .int x2), (3, .int x3), (4, .int x4)] → St D A s (wX4 cI ad finding asked upper lower r_items r_sizes t_items t_sizes d_items d_sizes st_size st_need st_lifted st_licked st_morning st_tally st_kinds st_places st_lengths st_downs st_covers sl_size sl_need sl_lifted sl_licked sl_morning sl_tally sl_kinds sl_places sl_lengths sl_downs sl_covers as_size as_need as_lifted as_licked as_morning as_tally as_kinds as_places as_lengths as_downs as_covers text place count least inAll inSome scratch findings) H locs → W p l e rmX4_fitGapSets s m AV below meth c H locs 0 0 Q (F0 m 20 ls []) := by
    intro x1 x2 count_o least_o inAll_o inSome_o KE n
    induction n with
    | zero =>
      intro count least inAll inSome x3 x4 h
      exact nomatch (show none = some _ from h)
    | succ n ih =>
      intro count least inAll inSome x3 x4 h ls H locs hl hG
      have h : fX4_fitGapSets_B20 sl_size sl_need sl_licked x1 x2 (fX4_fitGapSets_L20 sl_size sl_need sl_licked x1 x2 n) count least inAll inSome x3 x4 = some (count_o, least_o, inAll_o, inSome_o) := h
      have hj_50 : ∀ (count : Int32) (least : Int32) (inAll : Int32) (inSome : Int32) (x3 : Int32) (x4 : Int32) , fX4_fitGapSets_j50 (fX4_fitGapSets_L20 sl_size sl_need sl_licked x1 x2 n) sl_size sl_need sl_licked count least inAll inSome x1 x2 x3 x4 = some (count_o, least_o, inAll_o, inSome_o) → ∀ (ls : Array Slot) (H : Heap) (locs : List Loc), lv_has ls 5 [(0, .ref (ad 0)), (1, .int x1), (2, .int x2), (3, .int x3), (4, .int x4)] → St D A s (wX4 cI ad finding asked upper lower r_items r_sizes t_items t_sizes d_items d_sizes st_size st_need st_lifted st_licked st_morning st_tally st_kinds st_places st_lengths st_downs st_covers sl_size sl_need sl_lifted sl_licked sl_morning sl_tally sl_kinds sl_places sl_lengths sl_downs sl_covers as_size as_need as_lifted as_licked as_morning as_tally as_kinds as_places as_lengths as_downs as_covers text place count least inAll inSome scratch findings) H locs → W p l e rmX4_fitGapSets s m AV below meth c H locs 0 0 Q (F0 m 50 ls []) := by
        intro count least inAll inSome x3 x4 h ls H locs hl hG
        unfold fX4_fitGapSets_j50 at h
        refine lv_iload_n hx hb dX4_fitGapSets_50 rfl (lv_at hl 3 rfl) ?_
        refine lv_aload_n hx hb dX4_fitGapSets_51 rfl (lv_at hl 0 rfl) ?_
        refine x_get hc hG 0 rfl iX4 4 lX4_35 rfl dX4_fitGapSets_52 ?_
        refine x_getN hc hG 16 rfl iX3 8 lX4_161 rfl dX4_fitGapSets_55 ?_
        refine lv_isub hx hb dX4_fitGapSets_58 ?_
        refine lv_aload_n hx hb dX4_fitGapSets_59 rfl (lv_at hl 0 rfl) ?_
        refine x_get hc hG 0 rfl iX4 4 lX4_35 rfl dX4_fitGapSets_60 ?_
        refine x_getN hc hG 16 rfl iX3 8 lX4_161 rfl dX4_fitGapSets_63 ?_
        refine lv_iand hx hb dX4_fitGapSets_66 ?_
        refine lv_istore_n (lv' := [(3, .int ((x3 - sl_licked) &&& sl_licked)), (0, .ref (ad 0)), (1, .int x1), (2, .int x2), (4, .int x4)]) hx hb dX4_fitGapSets_67 rfl hl (by decide) rfl (fun ls hl => ?_)
        refine lv_iload_n hx hb dX4_fitGapSets_68 rfl (lv_at hl 0 rfl) ?_
        refine lv_if_ne (tgt := 75) hx hb dX4_fitGapSets_69 (by decide) (fun c69 => ?_) (fun c69 => ?_)
        · rw [if_neg c69] at h
          refine lv_iinc (v := (x4 + 1)) (lv' := [(4, .int (x4 + 1)), (3, .int ((x3 - sl_licked) &&& sl_licked)), (0, .ref (ad 0)), (1, .int x1), (2, .int x2)]) hx hb dX4_fitGapSets_75 hl (k := 4) rfl rfl (by decide) rfl (fun ls hl => ?_)
          refine lv_goto (tgt := 20) hx hb dX4_fitGapSets_78 (by decide) ?_
          exact ih _ _ _ _ _ _ h _ _ _ (lv_sub hl [2, 3, 4, 1, 0] rfl) hG
        · rw [if_pos c69] at h
          refine lv_goto (tgt := 81) hx hb dX4_fitGapSets_72 (by decide) ?_
          cases h
          exact KE _ _ _ (lv_sub hl [1] rfl) hG
      unfold fX4_fitGapSets_B20 at h
      refine lv_iload hx hb dX4_fitGapSets_20 (lv_at hl 4 rfl) ?_
      refine lv_sipush (v := 256) hx hb dX4_fitGapSets_22 (by decide) ?_
      refine lv_icmp_ge (tgt := 81) hx hb dX4_fitGapSets_25 (by decide) (fun c25 => ?_) (fun c25 => ?_)
      · rw [if_pos c25] at h
        cases h
        exact KE _ _ _ (lv_sub hl [0] rfl) hG
      · rw [if_neg c25] at h
        refine lv_aload_n hx hb dX4_fitGapSets_28 rfl (lv_at hl 0 rfl) ?_
        refine x_get hc hG 0 rfl iX4 4 lX4_35 rfl dX4_fitGapSets_29 ?_
        refine lv_iload_n hx hb dX4_fitGapSets_32 rfl (lv_at hl 2 rfl) ?_
        refine lv_iload_n hx hb dX4_fitGapSets_33 rfl (lv_at hl 3 rfl) ?_
        refine lv_ior hx hb dX4_fitGapSets_34 ?_
        obtain ⟨v35, e35, h⟩ := bd1_some h
        refine x_vi (rest := []) (ws' := (wX4 cI ad finding asked upper lower r_items r_sizes t_items t_sizes d_items d_sizes st_size st_need st_lifted st_licked st_morning st_tally st_kinds st_places st_lengths st_downs st_covers sl_size sl_need sl_lifted sl_licked sl_morning sl_tally sl_kinds sl_places sl_lengths sl_downs sl_covers as_size as_need as_lifted as_licked as_morning as_tally as_kinds as_places as_lengths as_downs as_covers text place count least inAll inSome scratch findings)) hc hG (cc_X3_linesBy (fun k => ad (16 + k)) sl_size sl_need sl_lifted sl_licked sl_morning sl_tally sl_kinds sl_places sl_lengths sl_downs sl_covers (x2 ||| x3) v35 e35) [16, 17, 18, 19, 20, 21] [0, 1, 2, 3, 4, 5, 6, 7, 8, 9, 10, 11, 12, 13, 14, 15, 22, 23, 24, 25, 26, 27, 28, 29, 30, 31] [0, 1, 2, 3, 4, 5, 6, 7, 8, 9, 10, 11, 12, 13, 14, 15, 26, 27, 28, 29, 30, 31, 16, 17, 18, 19, 20, 21, 22, 23, 24, 25] rfl rfl rfl 16 rfl rfl lX4_214 ⟨rfl, rfl, by decide, by decide⟩ rfl hl.1 (Nat.le_of_ble_eq_true rfl) rfl dX4_fitGapSets_35 (fun H locs hG => ?_)
        refine lv_iload_n hx hb dX4_fitGapSets_38 rfl (lv_at hl 1 rfl) ?_
        refine lv_icmp_ne (tgt := 50) hx hb dX4_fitGapSets_39 (by decide) (fun c39 => ?_) (fun c39 => ?_)
        · rw [if_neg c39] at h
          exact hj_50 _ _ _ _ _ _ h _ _ _ (lv_sub hl [0, 1, 2, 3, 4] rfl) hG
        · rw [if_pos c39] at h
          refine lv_aload_n hx hb dX4_fitGapSets_42 rfl (lv_at hl 0 rfl) ?_
          refine x_get hc hG 0 rfl iX4 7 lX4_53 rfl dX4_fitGapSets_43 ?_
          refine lv_iload_n hx hb dX4_fitGapSets_46 rfl (lv_at hl 3 rfl) ?_
          obtain ⟨count_47, least_47, inAll_47, inSome_47, e47, h⟩ := bd4_some h
          refine x_vv (rest := []) (ws' := (wX4 cI ad finding asked upper lower r_items r_sizes t_items t_sizes d_items d_sizes st_size st_need st_lifted st_licked st_morning st_tally st_kinds st_places st_lengths st_downs st_covers sl_size sl_need sl_lifted sl_licked sl_morning sl_tally sl_kinds sl_places sl_lengths sl_downs sl_covers as_size as_need as_lifted as_licked as_morning as_tally as_kinds as_places as_lengths as_downs as_covers text place count_47 least_47 inAll_47 inSome_47 scratch findings)) hc hG (cc_X1_add (fun k => ad (29 + k)) count least inAll inSome x3 count_47 least_47 inAll_47 inSome_47 e47) [29] [0, 1, 2, 3, 4, 5, 6, 7, 8, 9, 10, 11, 12, 13, 14, 15, 16, 17, 18, 19, 20, 21, 22, 23, 24, 25, 26, 27, 28, 30, 31] [0, 1, 2, 3, 4, 5, 6, 7, 8, 9, 10, 11, 12, 13, 14, 15, 16, 17, 18, 19, 20, 21, 22, 23, 24, 25, 26, 27, 28, 31, 29, 30] rfl rfl rfl 29 rfl rfl lX4_330 ⟨rfl, rfl, by decide, by decide⟩ rfl hl.1 (Nat.le_of_ble_eq_true rfl) rfl dX4_fitGapSets_47 (fun H locs hG => ?_)
          exact hj_50 _ _ _ _ _ _ h _ _ _ (lv_sub hl [0, 1, 2, 3, 4] rfl) hG
  unfold fX4_fitGapSets at h
  refine lv_aload_n hx hb dX4_fitGapSets_0 rfl (lv_at hl 0 rfl) ?_
  refine x_get hc hG 0 rfl iX4 7 lX4_53 rfl dX4_fitGapSets_1 ?_
  obtain ⟨count_4, least_4, inAll_4, inSome_4, e4, h⟩ := bd4_some h
  refine x_vv (rest := []) (ws' := (wX4 cI ad finding asked upper lower r_items r_sizes t_items t_sizes d_items d_sizes st_size st_need st_lifted st_licked st_morning st_tally st_kinds st_places st_lengths st_downs st_covers sl_size sl_need sl_lifted sl_licked sl_morning sl_tally sl_kinds sl_places sl_lengths sl_downs sl_covers as_size as_need as_lifted as_licked as_morning as_tally as_kinds as_places as_lengths as_downs as_covers text place count_4 least_4 inAll_4 inSome_4 scratch findings)) hc hG (cc_X1_clear (fun k => ad (29 + k)) count least inAll inSome count_4 least_4 inAll_4 inSome_4 e4) [29] [0, 1, 2, 3, 4, 5, 6, 7, 8, 9, 10, 11, 12, 13, 14, 15, 16, 17, 18, 19, 20, 21, 22, 23, 24, 25, 26, 27, 28, 30, 31] [0, 1, 2, 3, 4, 5, 6, 7, 8, 9, 10, 11, 12, 13, 14, 15, 16, 17, 18, 19, 20, 21, 22, 23, 24, 25, 26, 27, 28, 31, 29, 30] rfl rfl rfl 29 rfl rfl lX4_327 ⟨rfl, rfl, by decide, by decide⟩ rfl hl.1 (Nat.le_of_ble_eq_true rfl) rfl dX4_fitGapSets_4 (fun H locs hG => ?_)
  refine lv_aload_n hx hb dX4_fitGapSets_7 rfl (lv_at hl 0 rfl) ?_
  refine x_get hc hG 0 rfl iX4 4 lX4_35 rfl dX4_fitGapSets_8 ?_
  obtain ⟨v11, e11, h⟩ := bd1_some h
  refine x_vi (rest := []) (ws' := (wX4 cI ad finding asked upper lower r_items r_sizes t_items t_sizes d_items d_sizes st_size st_need st_lifted st_licked st_morning st_tally st_kinds st_places st_lengths st_downs st_covers sl_size sl_need sl_lifted sl_licked sl_morning sl_tally sl_kinds sl_places sl_lengths sl_downs sl_covers as_size as_need as_lifted as_licked as_morning as_tally as_kinds as_places as_lengths as_downs as_covers text place count_4 least_4 inAll_4 inSome_4 scratch findings)) hc hG (cc_X3_coveredNow (fun k => ad (16 + k)) sl_size sl_need sl_lifted sl_licked sl_morning sl_tally sl_kinds sl_places sl_lengths sl_downs sl_covers v11 e11) [16, 17, 18, 19, 20, 21] [0, 1, 2, 3, 4, 5, 6, 7, 8, 9, 10, 11, 12, 13, 14, 15, 22, 23, 24, 25, 26, 27, 28, 29, 30, 31] [0, 1, 2, 3, 4, 5, 6, 7, 8, 9, 10, 11, 12, 13, 14, 15, 26, 27, 28, 29, 30, 31, 16, 17, 18, 19, 20, 21, 22, 23, 24, 25] rfl rfl rfl 16 rfl rfl lX4_181 ⟨rfl, rfl, by decide, by decide⟩ rfl hl.1 (Nat.le_of_ble_eq_true rfl) rfl dX4_fitGapSets_11 (fun H locs hG => ?_)
  refine lv_istore_n (lv' := [(2, .int v11), (0, .ref (ad 0)), (1, .int x1)]) hx hb dX4_fitGapSets_14 rfl hl (by decide) rfl (fun ls hl => ?_)
  refine lv_iconst (v := 0) hx hb dX4_fitGapSets_15 (by decide) ?_
  refine lv_istore_n (lv' := [(3, .int 0), (2, .int v11), (0, .ref (ad 0)), (1, .int x1)]) hx hb dX4_fitGapSets_16 rfl hl (by decide) rfl (fun ls hl => ?_)
  refine lv_iconst (v := 0) hx hb dX4_fitGapSets_17 (by decide) ?_
  refine lv_istore (lv' := [(4, .int 0), (3, .int 0), (2, .int v11), (0, .ref (ad 0)), (1, .int x1)]) hx hb dX4_fitGapSets_18 hl (by decide) rfl (fun ls hl => ?_)
  obtain ⟨count_L20, least_L20, inAll_L20, inSome_L20, e20, h⟩ := bd4_some h
  refine hL_20 _ _ _ _ _ _ (fun ls H locs hl hG => ?_) _ _ _ _ _ _ _ e20 _ _ _ (lv_sub hl [3, 4, 2, 1, 0] rfl) hG
  cases h
  exact hret _ _ _ _ hG dX4_fitGapSets_81
set_option maxRecDepth 100000 in
set_option maxHeartbeats 4000000 in
theorem cc_X4_tellChance {l : Launch} {D : va_G} {cI : ClassId} {tL : Nat} (ad : Nat → Nat) (finding : Int32) (asked : Int32) (upper : Int64) (lower : Int64) (r_items : Nat → Int32) (r_sizes : Nat → Int32) (t_items : Nat → Int32) (t_sizes : Nat → Int32) (d_items : Nat → Int32) (d_sizes : Nat → Int32) (st_size : Int32) (st_need : Int32) (st_lifted : Int32) (st_licked : Int32) (st_morning : Int32) (st_tally : Int32) (st_kinds : Nat → Int32) (st_places : Nat → Int32) (st_lengths : Nat → Int32) (st_downs : Nat → Int32) (st_covers : Nat → Int32) (sl_size : Int32) (sl_need : Int32) (sl_lifted : Int32) (sl_licked : Int32) (sl_morning : Int32) (sl_tally : Int32) (sl_kinds : Nat → Int32) (sl_places : Nat → Int32) (sl_lengths : Nat → Int32) (sl_downs : Nat → Int32) (sl_covers : Nat → Int32) (as_size : Int32) (as_need : Int32) (as_lifted : Int32) (as_licked : Int32) (as_morning : Int32) (as_tally : Int32) (as_kinds : Nat → Int32) (as_places : Nat → Int32) (as_lengths : Nat → Int32) (as_downs : Nat → Int32) (as_covers : Nat → Int32) (text : Int32) (place : Int32) (count : Int32) (least : Int32) (inAll : Int32) (inSome : Int32) (scratch : Nat → Int32) (findings : Nat → Int32) (x1 : Int64) (x3 : Int64) (upper' : Int64) (lower' : Int64) (h : fX4_tellChance upper lower x1 x3 = some (upper', lower')) : Cv l D cI tL yX4_tellChance cX4_tellChance 12 rmX4_tellChance (wX4 cI ad finding asked upper lower r_items r_sizes t_items t_sizes d_items d_sizes st_size st_need st_lifted st_licked st_morning st_tally st_kinds st_places st_lengths st_downs st_covers sl_size sl_need sl_lifted sl_licked sl_morning sl_tally sl_kinds sl_places sl_lengths sl_downs sl_covers as_size as_need as_lifted as_licked as_morning as_tally as_kinds as_places as_lengths as_downs as_covers text place count least inAll inSome scratch findings) [.ref (ad 0), .long x1, .long x3] (wX4 cI ad finding asked upper' lower' r_items r_sizes t_items t_sizes d_items d_sizes st_size st_need st_lifted st_licked st_morning st_tally st_kinds st_places st_lengths st_downs st_covers sl_size sl_need sl_lifted sl_licked sl_morning sl_tally sl_kinds sl_places sl_lengths sl_downs sl_covers as_size as_need as_lifted as_licked as_morning as_tally as_kinds as_places as_lengths as_downs as_covers text place count least inAll inSome scratch findings) := by
  refine Cv_of (own := RX4) (by decide) (Nat.le_of_ble_eq_true rfl) rfl ?_
  intro p e s m below meth c Q A AV hc hret ls hl hG
  obtain ⟨hx, hb, hml, hown, hts, hK, hA, hz⟩ := id hc
  have hl : lv_has ls 12 [(0, .ref (ad 0)), (1, .long x1), (3, .long x3)] := hl
  have hL_9 : ∀ (upper : Int64) (lower : Int64) (x1 : Int64) (x3 : Int64) (x5_o : Int64), (∀ (ls : Array Slot) (H : Heap) (locs : List Loc), lv_has ls 12 [(0, .ref (ad 0)), (1, .long x1), (3, .long x3), (5, .long x5_o)] → St D A s (wX4 cI ad finding asked upper lower r_items r_sizes t_items t_sizes d_items d_sizes st_size st_need st_lifted st_licked st_morning st_tally st_kinds st_places st_lengths st_downs st_covers sl_size sl_need sl_lifted sl_licked sl_morning sl_tally sl_kinds sl_places sl_lengths sl_downs sl_covers as_size as_need as_lifted as_licked as_morning as_tally as_kinds as_places as_lengths as_downs as_covers text place count least inAll inSome scratch findings) H locs → W p l e rmX4_tellChance s m AV below meth c H locs 0 0 Q (F0 m 44 ls [])) → ∀ (n : Nat) (x5 : Int64) (x7 : Int64) (x9 : Int32), fX4_tellChance_L9 n x5 x7 x9 = some x5_o → ∀ (ls : Array Slot) (H : Heap) (locs : List Loc), lv_has ls 12 [(0, .ref (ad 0)), (1, .long x1), (3, .long x3), (5, .long x5), (7, .long x7), (9, .int x9)] → St D A s (wX4 cI ad finding asked upper lower r_items r_sizes t_items t_sizes d_items d_sizes st_size st_need st_lifted st_licked st_morning st_tally st_kinds st_places st_lengths st_downs st_covers sl_size sl_need sl_lifted sl_licked sl_morning sl_tally sl_kinds sl_places sl_lengths sl_downs sl_covers as_size as_need as_lifted as_licked as_morning as_tally as_kinds as_places as_lengths as_downs as_covers text place count least inAll inSome scratch findings) H locs → W p l e rmX4_tellChance s m AV below meth c H locs 0 0 Q (F0 m 9 ls []) := by
    intro upper lower x1 x3 x5_o KE n
    induction n with
    | zero =>
      intro x5 x7 x9 h
      exact nomatch (show none = some _ from h)
    | succ n ih =>
      intro x5 x7 x9 h ls H locs hl hG
      have h : fX4_tellChance_B9 (fX4_tellChance_L9 n) x5 x7 x9 = some x5_o := h
      unfold fX4_tellChance_B9 at h
      refine lv_iload hx hb dX4_tellChance_9 (lv_at hl 5 rfl) ?_
      refine lv_bipush (v := 100) hx hb dX4_tellChance_11 (by decide) ?_
      refine lv_icmp_ge (tgt := 44) hx hb dX4_tellChance_13 (by decide) (fun c13 => ?_) (fun c13 => ?_)
      · rw [if_pos c13] at h
        cases h
        exact KE _ _ _ (lv_sub hl [0, 1, 2, 3] rfl) hG
      · rw [if_neg c13] at h
        refine lv_lload hx hb dX4_tellChance_16 (lv_at hl 4 rfl) ?_
        refine lv_lconst (v := 0) hx hb dX4_tellChance_18 (by decide) ?_
        refine W.lcmp hx hb dX4_tellChance_19 ?_
        refine lv_if_eq (tgt := 44) hx hb dX4_tellChance_20 (by decide) (fun c20 => ?_) (fun c20 => ?_)
        · rw [if_pos c20] at h
          cases h
          exact KE _ _ _ (lv_sub hl [0, 1, 2, 3] rfl) hG
        · rw [if_neg c20] at h
          refine lv_lload hx hb dX4_tellChance_23 (lv_at hl 3 rfl) ?_
          refine lv_lload hx hb dX4_tellChance_25 (lv_at hl 4 rfl) ?_
          by_cases c27 : x7 = 0
          · rw [if_pos c27] at h
            cases h
          · rw [if_neg c27] at h
            refine lv_lrem hx hb dX4_tellChance_27 c27 ?_
            refine lv_lstore (lv' := [(10, .long (x5 - x5 / x7 * x7)), (0, .ref (ad 0)), (1, .long x1), (3, .long x3), (5, .long x5), (7, .long x7), (9, .int x9)]) hx hb dX4_tellChance_28 hl (by decide) rfl (fun ls hl => ?_)
            refine lv_lload hx hb dX4_tellChance_30 (lv_at hl 5 rfl) ?_
            refine lv_lstore (lv' := [(5, .long x7), (10, .long (x5 - x5 / x7 * x7)), (0, .ref (ad 0)), (1, .long x1), (3, .long x3), (7, .long x7), (9, .int x9)]) hx hb dX4_tellChance_32 hl (by decide) rfl (fun ls hl => ?_)
            refine lv_lload hx hb dX4_tellChance_34 (lv_at hl 1 rfl) ?_
            refine lv_lstore (lv' := [(7, .long (x5 - x5 / x7 * x7)), (5, .long x7), (10, .long (x5 - x5 / x7 * x7)), (0, .ref (ad 0)), (1, .long x1), (3, .long x3), (9, .int x9)]) hx hb dX4_tellChance_36 hl (by decide) rfl (fun ls hl => ?_)
            refine lv_iinc (v := (x9 + 1)) (lv' := [(9, .int (x9 + 1)), (7, .long (x5 - x5 / x7 * x7)), (5, .long x7), (10, .long (x5 - x5 / x7 * x7)), (0, .ref (ad 0)), (1, .long x1), (3, .long x3)]) hx hb dX4_tellChance_38 hl (k := 6) rfl rfl (by decide) rfl (fun ls hl => ?_)
            refine lv_goto (tgt := 9) hx hb dX4_tellChance_41 (by decide) ?_
            exact ih _ _ _ h _ _ _ (lv_sub hl [4, 5, 6, 2, 1, 0] rfl) hG
  unfold fX4_tellChance at h
  refine lv_lload_n hx hb dX4_tellChance_0 rfl (lv_at hl 1 rfl) ?_
  refine lv_lstore (lv' := [(5, .long x1), (0, .ref (ad 0)), (1, .long x1), (3, .long x3)]) hx hb dX4_tellChance_1 hl (by decide) rfl (fun ls hl => ?_)
  refine lv_lload_n hx hb dX4_tellChance_3 rfl (lv_at hl 3 rfl) ?_
  refine lv_lstore (lv' := [(7, .long x3), (5, .long x1), (0, .ref (ad 0)), (1, .long x1), (3, .long x3)]) hx hb dX4_tellChance_4 hl (by decide) rfl (fun ls hl => ?_)
  refine lv_iconst (v := 0) hx hb dX4_tellChance_6 (by decide) ?_
  refine lv_istore (lv' := [(9, .int 0), (7, .long x3), (5, .long x1), (0, .ref (ad 0)), (1, .long x1), (3, .long x3)]) hx hb dX4_tellChance_7 hl (by decide) rfl (fun ls hl => ?_)
  obtain ⟨x5_L9, e9, h⟩ := bd1_some h
  refine hL_9 _ _ _ _ _ (fun ls H locs hl hG => ?_) _ _ _ _ e9 _ _ _ (lv_sub hl [3, 4, 5, 2, 1, 0] rfl) hG
  refine lv_lload hx hb dX4_tellChance_44 (lv_at hl 3 rfl) ?_
  refine lv_lconst (v := 0) hx hb dX4_tellChance_46 (by decide) ?_
  refine W.lcmp hx hb dX4_tellChance_47 ?_
  refine lv_if_le (tgt := 67) hx hb dX4_tellChance_48 (by decide) (fun c48 => ?_) (fun c48 => ?_)
  · rw [if_pos c48] at h
    cases h
    exact hret _ _ _ _ hG dX4_tellChance_67
  · rw [if_neg c48] at h
    refine lv_aload_n hx hb dX4_tellChance_51 rfl (lv_at hl 0 rfl) ?_
    refine lv_lload_n hx hb dX4_tellChance_52 rfl (lv_at hl 1 rfl) ?_
    refine lv_lload hx hb dX4_tellChance_53 (lv_at hl 3 rfl) ?_
    by_cases c55 : x5_L9 = 0
    · rw [if_pos c55] at h
      cases h
    · rw [if_neg c55] at h
      refine lv_ldiv hx hb dX4_tellChance_55 c55 ?_
      refine x_put (ws' := (wX4 cI ad finding asked (x1 / x5_L9) lower r_items r_sizes t_items t_sizes d_items d_sizes st_size st_need st_lifted st_licked st_morning st_tally st_kinds st_places st_lengths st_downs st_covers sl_size sl_need sl_lifted sl_licked sl_morning sl_tally sl_kinds sl_places sl_lengths sl_downs sl_covers as_size as_need as_lifted as_licked as_morning as_tally as_kinds as_places as_lengths as_downs as_covers text place count least inAll inSome scratch findings)) hc hG 0 rfl iX4 tyX4 tyX4_ok nmX4 12 lX4_286 rfl rfl rfl (Nat.le_of_ble_eq_true rfl) rfl dX4_tellChance_56 (fun H locs hG => ?_)
      refine lv_aload_n hx hb dX4_tellChance_59 rfl (lv_at hl 0 rfl) ?_
      refine lv_lload_n hx hb dX4_tellChance_60 rfl (lv_at hl 2 rfl) ?_
      refine lv_lload hx hb dX4_tellChance_61 (lv_at hl 3 rfl) ?_
      by_cases c63 : x5_L9 = 0
      · rw [if_pos c63] at h
        cases h
      · rw [if_neg c63] at h
        refine lv_ldiv hx hb dX4_tellChance_63 c63 ?_
        refine x_put (ws' := (wX4 cI ad finding asked (x1 / x5_L9) (x3 / x5_L9) r_items r_sizes t_items t_sizes d_items d_sizes st_size st_need st_lifted st_licked st_morning st_tally st_kinds st_places st_lengths st_downs st_covers sl_size sl_need sl_lifted sl_licked sl_morning sl_tally sl_kinds sl_places sl_lengths sl_downs sl_covers as_size as_need as_lifted as_licked as_morning as_tally as_kinds as_places as_lengths as_downs as_covers text place count least inAll inSome scratch findings)) hc hG 0 rfl iX4 tyX4 tyX4_ok nmX4 13 lX4_64 rfl rfl rfl (Nat.le_of_ble_eq_true rfl) rfl dX4_tellChance_64 (fun H locs hG => ?_)
        cases h
        exact hret _ _ _ _ hG dX4_tellChance_67
set_option maxRecDepth 100000 in
set_option maxHeartbeats 4000000 in
theorem cc_X4_gap {l : Launch} {D : va_G} {cI : ClassId} {tL : Nat} (ad : Nat → Nat) (finding : Int32) (asked : Int32) (upper : Int64) (lower : Int64) (r_items : Nat → Int32) (r_sizes : Nat → Int32) (t_items : Nat → Int32) (t_sizes : Nat → Int32) (d_items : Nat → Int32) (d_sizes : Nat → Int32) (st_size : Int32) (st_need : Int32) (st_lifted : Int32) (st_licked : Int32) (st_morning : Int32) (st_tally : Int32) (st_kinds : Nat → Int32) (st_places : Nat → Int32) (st_lengths : Nat → Int32) (st_downs : Nat → Int32) (st_covers : Nat → Int32) (sl_size : Int32) (sl_need : Int32) (sl_lifted : Int32) (sl_licked : Int32) (sl_morning : Int32) (sl_tally : Int32) (sl_kinds : Nat → Int32) (sl_places : Nat → Int32) (sl_lengths : Nat → Int32) (sl_downs : Nat → Int32) (sl_covers : Nat → Int32) (as_size : Int32) (as_need : Int32) (as_lifted : Int32) (as_licked : Int32) (as_morning : Int32) (as_tally : Int32) (as_kinds : Nat → Int32) (as_places : Nat → Int32) (as_lengths : Nat → Int32) (as_downs : Nat → Int32) (as_covers : Nat → Int32) (text : Int32) (place : Int32) (count : Int32) (least : Int32) (inAll : Int32) (inSome : Int32) (scratch : Nat → Int32) (findings : Nat → Int32) (x1 : Int32) (r' : Int32) (asked' : Int32) (upper' : Int64) (lower' : Int64) (count' : Int32) (least' : Int32) (inAll' : Int32) (inSome' : Int32) (h : fX4_gap asked upper lower sl_size sl_need sl_lifted sl_licked sl_covers count least inAll inSome x1 = some (r', asked', upper', lower', count', least', inAll', inSome')) : Ci l D cI tL yX4_gap cX4_gap 2 .int rmX4_gap (wX4 cI ad finding asked upper lower r_items r_sizes t_items t_sizes d_items d_sizes st_size st_need st_lifted st_licked st_morning st_tally st_kinds st_places st_lengths st_downs st_covers sl_size sl_need sl_lifted sl_licked sl_morning sl_tally sl_kinds sl_places sl_lengths sl_downs sl_covers as_size as_need as_lifted as_licked as_morning as_tally as_kinds as_places as_lengths as_downs as_covers text place count least inAll inSome scratch findings) [.ref (ad 0), .int x1] r' (wX4 cI ad finding asked' upper' lower' r_items r_sizes t_items t_sizes d_items d_sizes st_size st_need st_lifted st_licked st_morning st_tally st_kinds st_places st_lengths st_downs st_covers sl_size sl_need sl_lifted sl_licked sl_morning sl_tally sl_kinds sl_places sl_lengths sl_downs sl_covers as_size as_need as_lifted as_licked as_morning as_tally as_kinds as_places as_lengths as_downs as_covers text place count' least' inAll' inSome' scratch findings) := by
  refine Ci_of (own := RX4) (by decide) (Nat.le_of_ble_eq_true rfl) rfl ?_
  intro p e s m below meth c Q A AV hc hret ls hl hG
  obtain ⟨hx, hb, hml, hown, hts, hK, hA, hz⟩ := id hc
  have hl : lv_has ls 2 [(0, .ref (ad 0)), (1, .int x1)] := hl
  unfold fX4_gap at h
  refine lv_iload_n hx hb dX4_gap_0 rfl (lv_at hl 1 rfl) ?_
  obtain ⟨v1, e1, h⟩ := bd1_some h
  refine x_si0 (rest := []) hc hG (cc_X4_areLines x1 v1 e1) lX4_196 ⟨rfl, rfl, by decide, by decide⟩ rfl hl.1 (Nat.le_of_ble_eq_true rfl) rfl dX4_gap_1 (fun H locs hG => ?_)
  refine lv_if_ne (tgt := 9) hx hb dX4_gap_4 (by decide) (fun c4 => ?_) (fun c4 => ?_)
  · rw [if_neg c4] at h
    refine lv_aload_n hx hb dX4_gap_9 rfl (lv_at hl 0 rfl) ?_
    refine x_get hc hG 0 rfl iX4 4 lX4_35 rfl dX4_gap_10 ?_
    refine x_getN hc hG 16 rfl iX3 5 lX4_118 rfl dX4_gap_13 ?_
    refine lv_if_ne (tgt := 22) hx hb dX4_gap_16 (by decide) (fun c16 => ?_) (fun c16 => ?_)
    · rw [if_neg c16] at h
      refine lv_aload_n hx hb dX4_gap_22 rfl (lv_at hl 0 rfl) ?_
      refine lv_iload_n hx hb dX4_gap_23 rfl (lv_at hl 1 rfl) ?_
      obtain ⟨count_24, least_24, inAll_24, inSome_24, e24, h⟩ := bd4_some h
      refine x_vv (rest := []) (ws' := (wX4 cI ad finding asked upper lower r_items r_sizes t_items t_sizes d_items d_sizes st_size st_need st_lifted st_licked st_morning st_tally st_kinds st_places st_lengths st_downs st_covers sl_size sl_need sl_lifted sl_licked sl_morning sl_tally sl_kinds sl_places sl_lengths sl_downs sl_covers as_size as_need as_lifted as_licked as_morning as_tally as_kinds as_places as_lengths as_downs as_covers text place count_24 least_24 inAll_24 inSome_24 scratch findings)) hc hG (cc_X4_fitGapSets ad finding asked upper lower r_items r_sizes t_items t_sizes d_items d_sizes st_size st_need st_lifted st_licked st_morning st_tally st_kinds st_places st_lengths st_downs st_covers sl_size sl_need sl_lifted sl_licked sl_morning sl_tally sl_kinds sl_places sl_lengths sl_downs sl_covers as_size as_need as_lifted as_licked as_morning as_tally as_kinds as_places as_lengths as_downs as_covers text place count least inAll inSome scratch findings x1 count_24 least_24 inAll_24 inSome_24 e24) [0, 1, 2, 3, 4, 5, 6, 7, 8, 9, 10, 11, 12, 13, 14, 15, 16, 17, 18, 19, 20, 21, 22, 23, 24, 25, 26, 27, 28, 29, 30, 31] [] [0, 1, 2, 3, 4, 5, 6, 7, 8, 9, 10, 11, 12, 13, 14, 15, 16, 17, 18, 19, 20, 21, 22, 23, 24, 25, 26, 27, 28, 29, 30, 31] rfl rfl rfl 0 rfl rfl lX4_222 ⟨rfl, rfl, by decide, by decide⟩ rfl hl.1 (Nat.le_of_ble_eq_true rfl) rfl dX4_gap_24 (fun H locs hG => ?_)
      refine lv_aload_n hx hb dX4_gap_27 rfl (lv_at hl 0 rfl) ?_
      refine lv_aload_n hx hb dX4_gap_28 rfl (lv_at hl 0 rfl) ?_
      refine x_get hc hG 0 rfl iX4 7 lX4_53 rfl dX4_gap_29 ?_
      refine x_getN hc hG 29 rfl iX1 0 lX4_225 rfl dX4_gap_32 ?_
      refine lv_i2l hx hb dX4_gap_35 rfl ?_
      refine lv_lconst (v := 1) hx hb dX4_gap_36 (by decide) ?_
      obtain ⟨upper_37, lower_37, e37, h⟩ := bd2_some h
      refine x_vv (rest := []) (ws' := (wX4 cI ad finding asked upper_37 lower_37 r_items r_sizes t_items t_sizes d_items d_sizes st_size st_need st_lifted st_licked st_morning st_tally st_kinds st_places st_lengths st_downs st_covers sl_size sl_need sl_lifted sl_licked sl_morning sl_tally sl_kinds sl_places sl_lengths sl_downs sl_covers as_size as_need as_lifted as_licked as_morning as_tally as_kinds as_places as_lengths as_downs as_covers text place count_24 least_24 inAll_24 inSome_24 scratch findings)) hc hG (cc_X4_tellChance ad finding asked upper lower r_items r_sizes t_items t_sizes d_items d_sizes st_size st_need st_lifted st_licked st_morning st_tally st_kinds st_places st_lengths st_downs st_covers sl_size sl_need sl_lifted sl_licked sl_morning sl_tally sl_kinds sl_places sl_lengths sl_downs sl_covers as_size as_need as_lifted as_licked as_morning as_tally as_kinds as_places as_lengths as_downs as_covers text place count_24 least_24 inAll_24 inSome_24 scratch findings (Int32.toInt64 count_24) 1 upper_37 lower_37 e37) [0, 1, 2, 3, 4, 5, 6, 7, 8, 9, 10, 11, 12, 13, 14, 15, 16, 17, 18, 19, 20, 21, 22, 23, 24, 25, 26, 27, 28, 29, 30, 31] [] [0, 1, 2, 3, 4, 5, 6, 7, 8, 9, 10, 11, 12, 13, 14, 15, 16, 17, 18, 19, 20, 21, 22, 23, 24, 25, 26, 27, 28, 29, 30, 31] rfl rfl rfl 0 rfl rfl lX4_228 ⟨rfl, rfl, by decide, by decide⟩ rfl hl.1 (Nat.le_of_ble_eq_true rfl) rfl dX4_gap_37 (fun H locs hG => ?_)
      refine lv_aload_n hx hb dX4_gap_40 rfl (lv_at hl 0 rfl) ?_
      refine lv_aload_n hx hb dX4_gap_41 rfl (lv_at hl 0 rfl) ?_
      refine x_get hc hG 0 rfl iX4 7 lX4_53 rfl dX4_gap_42 ?_
      refine x_getN hc hG 29 rfl iX1 1 lX4_232 rfl dX4_gap_45 ?_
      obtain ⟨v48, asked_48, e48, h⟩ := bd2_some h
      refine x_vi (rest := []) (ws' := (wX4 cI ad finding asked_48 upper_37 lower_37 r_items r_sizes t_items t_sizes d_items d_sizes st_size st_need st_lifted st_licked st_morning st_tally st_kinds st_places st_lengths st_downs st_covers sl_size sl_need sl_lifted sl_licked sl_morning sl_tally sl_kinds sl_places sl_lengths sl_downs sl_covers as_size as_need as_lifted as_licked as_morning as_tally as_kinds as_places as_lengths as_downs as_covers text place count_24 least_24 inAll_24 inSome_24 scratch findings)) hc hG (cc_X4_tell ad finding asked upper_37 lower_37 r_items r_sizes t_items t_sizes d_items d_sizes st_size st_need st_lifted st_licked st_morning st_tally st_kinds st_places st_lengths st_downs st_covers sl_size sl_need sl_lifted sl_licked sl_morning sl_tally sl_kinds sl_places sl_lengths sl_downs sl_covers as_size as_need as_lifted as_licked as_morning as_tally as_kinds as_places as_lengths as_downs as_covers text place count_24 least_24 inAll_24 inSome_24 scratch findings least_24 v48 asked_48 e48) [0, 1, 2, 3, 4, 5, 6, 7, 8, 9, 10, 11, 12, 13, 14, 15, 16, 17, 18, 19, 20, 21, 22, 23, 24, 25, 26, 27, 28, 29, 30, 31] [] [0, 1, 2, 3, 4, 5, 6, 7, 8, 9, 10, 11, 12, 13, 14, 15, 16, 17, 18, 19, 20, 21, 22, 23, 24, 25, 26, 27, 28, 29, 30, 31] rfl rfl rfl 0 rfl rfl lX4_90 ⟨rfl, rfl, by decide, by decide⟩ rfl hl.1 (Nat.le_of_ble_eq_true rfl) rfl dX4_gap_48 (fun H locs hG => ?_)
      cases h
      exact hret _ _ _ _ hG dX4_gap_51 rfl
    · rw [if_pos c16] at h
      refine lv_bipush (v := (-4)) hx hb dX4_gap_19 (by decide) ?_
      cases h
      exact hret _ _ _ _ hG dX4_gap_21 rfl
  · rw [if_pos c4] at h
    refine lv_iconst (v := (-1)) hx hb dX4_gap_7 (by decide) ?_
    cases h
    exact hret _ _ _ _ hG dX4_gap_8 rfl
set_option maxRecDepth 100000 in
set_option maxHeartbeats 4000000 in
theorem cc_X4_sure {l : Launch} {D : va_G} {cI : ClassId} {tL : Nat} (ad : Nat → Nat) (finding : Int32) (asked : Int32) (upper : Int64) (lower : Int64) (r_items : Nat → Int32) (r_sizes : Nat → Int32) (t_items : Nat → Int32) (t_sizes : Nat → Int32) (d_items : Nat → Int32) (d_sizes : Nat → Int32) (st_size : Int32) (st_need : Int32) (st_lifted : Int32) (st_licked : Int32) (st_morning : Int32) (st_tally : Int32) (st_kinds : Nat → Int32) (st_places : Nat → Int32) (st_lengths : Nat → Int32) (st_downs : Nat → Int32) (st_covers : Nat → Int32) (sl_size : Int32) (sl_need : Int32) (sl_lifted : Int32) (sl_licked : Int32) (sl_morning : Int32) (sl_tally : Int32) (sl_kinds : Nat → Int32) (sl_places : Nat → Int32) (sl_lengths : Nat → Int32) (sl_downs : Nat → Int32) (sl_covers : Nat → Int32) (as_size : Int32) (as_need : Int32) (as_lifted : Int32) (as_licked : Int32) (as_morning : Int32) (as_tally : Int32) (as_kinds : Nat → Int32) (as_places : Nat → Int32) (as_lengths : Nat → Int32) (as_downs : Nat → Int32) (as_covers : Nat → Int32) (text : Int32) (place : Int32) (count : Int32) (least : Int32) (inAll : Int32) (inSome : Int32) (scratch : Nat → Int32) (findings : Nat → Int32) (x1 : Int32) (r' : Int32) (finding' : Int32) (asked' : Int32) (count' : Int32) (least' : Int32) (inAll' : Int32) (inSome' : Int32) (findings' : Nat → Int32) (h : fX4_sure finding asked sl_size sl_need sl_lifted sl_licked sl_covers count least inAll inSome findings x1 = some (r', finding', asked', count', least', inAll', inSome', findings')) : Ci l D cI tL yX4_sure cX4_sure 2 .int rmX4_sure (wX4 cI ad finding asked upper lower r_items r_sizes t_items t_sizes d_items d_sizes st_size st_need st_lifted st_licked st_morning st_tally st_kinds st_places st_lengths st_downs st_covers sl_size sl_need sl_lifted sl_licked sl_morning sl_tally sl_kinds sl_places sl_lengths sl_downs sl_covers as_size as_need as_lifted as_licked as_morning as_tally as_kinds as_places as_lengths as_downs as_covers text place count least inAll inSome scratch findings) [.ref (ad 0), .int x1] r' (wX4 cI ad finding' asked' upper lower r_items r_sizes t_items t_sizes d_items d_sizes st_size st_need st_lifted st_licked st_morning st_tally st_kinds st_places st_lengths st_downs st_covers sl_size sl_need sl_lifted sl_licked sl_morning sl_tally sl_kinds sl_places sl_lengths sl_downs sl_covers as_size as_need as_lifted as_licked as_morning as_tally as_kinds as_places as_lengths as_downs as_covers text place count' least' inAll' inSome' scratch findings') := by
  refine Ci_of (own := RX4) (by decide) (Nat.le_of_ble_eq_true rfl) rfl ?_
  intro p e s m below meth c Q A AV hc hret ls hl hG
  obtain ⟨hx, hb, hml, hown, hts, hK, hA, hz⟩ := id hc
  have hl : lv_has ls 2 [(0, .ref (ad 0)), (1, .int x1)] := hl
  unfold fX4_sure at h
  refine lv_iload_n hx hb dX4_sure_0 rfl (lv_at hl 1 rfl) ?_
  obtain ⟨v1, e1, h⟩ := bd1_some h
  refine x_si0 (rest := []) hc hG (cc_X4_areLines x1 v1 e1) lX4_196 ⟨rfl, rfl, by decide, by decide⟩ rfl hl.1 (Nat.le_of_ble_eq_true rfl) rfl dX4_sure_1 (fun H locs hG => ?_)
  refine lv_if_ne (tgt := 9) hx hb dX4_sure_4 (by decide) (fun c4 => ?_) (fun c4 => ?_)
  · rw [if_neg c4] at h
    refine lv_aload_n hx hb dX4_sure_9 rfl (lv_at hl 0 rfl) ?_
    refine x_get hc hG 0 rfl iX4 4 lX4_35 rfl dX4_sure_10 ?_
    refine x_getN hc hG 16 rfl iX3 5 lX4_118 rfl dX4_sure_13 ?_
    refine lv_if_ne (tgt := 22) hx hb dX4_sure_16 (by decide) (fun c16 => ?_) (fun c16 => ?_)
    · rw [if_neg c16] at h
      refine lv_aload_n hx hb dX4_sure_22 rfl (lv_at hl 0 rfl) ?_
      refine lv_iload_n hx hb dX4_sure_23 rfl (lv_at hl 1 rfl) ?_
      obtain ⟨count_24, least_24, inAll_24, inSome_24, e24, h⟩ := bd4_some h
      refine x_vv (rest := []) (ws' := (wX4 cI ad finding asked upper lower r_items r_sizes t_items t_sizes d_items d_sizes st_size st_need st_lifted st_licked st_morning st_tally st_kinds st_places st_lengths st_downs st_covers sl_size sl_need sl_lifted sl_licked sl_morning sl_tally sl_kinds sl_places sl_lengths sl_downs sl_covers as_size as_need as_lifted as_licked as_morning as_tally as_kinds as_places as_lengths as_downs as_covers text place count_24 least_24 inAll_24 inSome_24 scratch findings)) hc hG (cc_X4_fitGapSets ad finding asked upper lower r_items r_sizes t_items t_sizes d_items d_sizes st_size st_need st_lifted st_licked st_morning st_tally st_kinds st_places st_lengths st_downs st_covers sl_size sl_need sl_lifted sl_licked sl_morning sl_tally sl_kinds sl_places sl_lengths sl_downs sl_covers as_size as_need as_lifted as_licked as_morning as_tally as_kinds as_places as_lengths as_downs as_covers text place count least inAll inSome scratch findings x1 count_24 least_24 inAll_24 inSome_24 e24) [0, 1, 2, 3, 4, 5, 6, 7, 8, 9, 10, 11, 12, 13, 14, 15, 16, 17, 18, 19, 20, 21, 22, 23, 24, 25, 26, 27, 28, 29, 30, 31] [] [0, 1, 2, 3, 4, 5, 6, 7, 8, 9, 10, 11, 12, 13, 14, 15, 16, 17, 18, 19, 20, 21, 22, 23, 24, 25, 26, 27, 28, 29, 30, 31] rfl rfl rfl 0 rfl rfl lX4_222 ⟨rfl, rfl, by decide, by decide⟩ rfl hl.1 (Nat.le_of_ble_eq_true rfl) rfl dX4_sure_24 (fun H locs hG => ?_)
      refine lv_aload_n hx hb dX4_sure_27 rfl (lv_at hl 0 rfl) ?_
      refine x_get hc hG 0 rfl iX4 7 lX4_53 rfl dX4_sure_28 ?_
      refine x_getN hc hG 29 rfl iX1 0 lX4_225 rfl dX4_sure_31 ?_
      refine lv_if_ne (tgt := 43) hx hb dX4_sure_34 (by decide) (fun c34 => ?_) (fun c34 => ?_)
      · rw [if_neg c34] at h
        refine lv_aload_n hx hb dX4_sure_43 rfl (lv_at hl 0 rfl) ?_
        refine lv_aload_n hx hb dX4_sure_44 rfl (lv_at hl 0 rfl) ?_
        refine x_get hc hG 0 rfl iX4 4 lX4_35 rfl dX4_sure_45 ?_
        refine x_getN hc hG 16 rfl iX3 8 lX4_161 rfl dX4_sure_48 ?_
        refine lv_aload_n hx hb dX4_sure_51 rfl (lv_at hl 0 rfl) ?_
        refine x_get hc hG 0 rfl iX4 7 lX4_53 rfl dX4_sure_52 ?_
        refine x_getN hc hG 29 rfl iX1 3 lX4_235 rfl dX4_sure_55 ?_
        refine lv_iconst (v := (-1)) hx hb dX4_sure_58 (by decide) ?_
        refine lv_ixor hx hb dX4_sure_59 ?_
        refine lv_iand hx hb dX4_sure_60 ?_
        refine x_put (ws' := (wX4 cI ad finding (sl_licked &&& (inSome_24 ^^^ (-1))) upper lower r_items r_sizes t_items t_sizes d_items d_sizes st_size st_need st_lifted st_licked st_morning st_tally st_kinds st_places st_lengths st_downs st_covers sl_size sl_need sl_lifted sl_licked sl_morning sl_tally sl_kinds sl_places sl_lengths sl_downs sl_covers as_size as_need as_lifted as_licked as_morning as_tally as_kinds as_places as_lengths as_downs as_covers text place count_24 least_24 inAll_24 inSome_24 scratch findings)) hc hG 0 rfl iX4 tyX4 tyX4_ok nmX4 11 lX4_178 rfl rfl rfl (Nat.le_of_ble_eq_true rfl) rfl dX4_sure_61 (fun H locs hG => ?_)
        refine lv_aload_n hx hb dX4_sure_64 rfl (lv_at hl 0 rfl) ?_
        refine x_get hc hG 0 rfl iX4 7 lX4_53 rfl dX4_sure_65 ?_
        refine x_getN hc hG 29 rfl iX1 2 lX4_238 rfl dX4_sure_68 ?_
        cases h
        exact hret _ _ _ _ hG dX4_sure_71 rfl
      · rw [if_pos c34] at h
        refine lv_aload_n hx hb dX4_sure_37 rfl (lv_at hl 0 rfl) ?_
        refine lv_iconst (v := 4) hx hb dX4_sure_38 (by decide) ?_
        obtain ⟨v39, finding_39, findings_39, e39, h⟩ := bd3_some h
        refine x_vi (rest := []) (ws' := (wX4 cI ad finding_39 asked upper lower r_items r_sizes t_items t_sizes d_items d_sizes st_size st_need st_lifted st_licked st_morning st_tally st_kinds st_places st_lengths st_downs st_covers sl_size sl_need sl_lifted sl_licked sl_morning sl_tally sl_kinds sl_places sl_lengths sl_downs sl_covers as_size as_need as_lifted as_licked as_morning as_tally as_kinds as_places as_lengths as_downs as_covers text place count_24 least_24 inAll_24 inSome_24 scratch findings_39)) hc hG (cc_X4_find ad finding asked upper lower r_items r_sizes t_items t_sizes d_items d_sizes st_size st_need st_lifted st_licked st_morning st_tally st_kinds st_places st_lengths st_downs st_covers sl_size sl_need sl_lifted sl_licked sl_morning sl_tally sl_kinds sl_places sl_lengths sl_downs sl_covers as_size as_need as_lifted as_licked as_morning as_tally as_kinds as_places as_lengths as_downs as_covers text place count_24 least_24 inAll_24 inSome_24 scratch findings 4 v39 finding_39 findings_39 e39) [0, 1, 2, 3, 4, 5, 6, 7, 8, 9, 10, 11, 12, 13, 14, 15, 16, 17, 18, 19, 20, 21, 22, 23, 24, 25, 26, 27, 28, 29, 30, 31] [] [0, 1, 2, 3, 4, 5, 6, 7, 8, 9, 10, 11, 12, 13, 14, 15, 16, 17, 18, 19, 20, 21, 22, 23, 24, 25, 26, 27, 28, 29, 30, 31] rfl rfl rfl 0 rfl rfl lX4_72 ⟨rfl, rfl, by decide, by decide⟩ rfl hl.1 (Nat.le_of_ble_eq_true rfl) rfl dX4_sure_39 (fun H locs hG => ?_)
        cases h
        exact hret _ _ _ _ hG dX4_sure_42 rfl
    · rw [if_pos c16] at h
      refine lv_bipush (v := (-4)) hx hb dX4_sure_19 (by decide) ?_
      cases h
      exact hret _ _ _ _ hG dX4_sure_21 rfl
  · rw [if_pos c4] at h
    refine lv_iconst (v := (-1)) hx hb dX4_sure_7 (by decide) ?_
    cases h
    exact hret _ _ _ _ hG dX4_sure_8 rfl
set_option maxRecDepth 100000 in
set_option maxHeartbeats 4000000 in
theorem cc_X4_flawOfSeen {l : Launch} {D : va_G} {cI : ClassId} {tL : Nat} (ad : Nat → Nat) (finding : Int32) (asked : Int32) (upper : Int64) (lower : Int64) (r_items : Nat → Int32) (r_sizes : Nat → Int32) (t_items : Nat → Int32) (t_sizes : Nat → Int32) (d_items : Nat → Int32) (d_sizes : Nat → Int32) (st_size : Int32) (st_need : Int32) (st_lifted : Int32) (st_licked : Int32) (st_morning : Int32) (st_tally : Int32) (st_kinds : Nat → Int32) (st_places : Nat → Int32) (st_lengths : Nat → Int32) (st_downs : Nat → Int32) (st_covers : Nat → Int32) (sl_size : Int32) (sl_need : Int32) (sl_lifted : Int32) (sl_licked : Int32) (sl_morning : Int32) (sl_tally : Int32) (sl_kinds : Nat → Int32) (sl_places : Nat → Int32) (sl_lengths : Nat → Int32) (sl_downs : Nat → Int32) (sl_covers : Nat → Int32) (as_size : Int32) (as_need : Int32) (as_lifted : Int32) (as_licked : Int32) (as_morning : Int32) (as_tally : Int32) (as_kinds : Nat → Int32) (as_places : Nat → Int32) (as_lengths : Nat → Int32) (as_downs : Nat → Int32) (as_covers : Nat → Int32) (text : Int32) (place : Int32) (count : Int32) (least : Int32) (inAll : Int32) (inSome : Int32) (scratch : Nat → Int32) (findings : Nat → Int32) (x1 : Int32) (r' : Int32) (h : fX4_flawOfSeen r_items r_sizes x1 = some r') : Ci l D cI tL yX4_flawOfSeen cX4_flawOfSeen 4 .int rmX4_flawOfSeen (wX4 cI ad finding asked upper lower r_items r_sizes t_items t_sizes d_items d_sizes st_size st_need st_lifted st_licked st_morning st_tally st_kinds st_places st_lengths st_downs st_covers sl_size sl_need sl_lifted sl_licked sl_morning sl_tally sl_kinds sl_places sl_lengths sl_downs sl_covers as_size as_need as_lifted as_licked as_morning as_tally as_kinds as_places as_lengths as_downs as_covers text place count least inAll inSome scratch findings) [.ref (ad 0), .int x1] r' (wX4 cI ad finding asked upper lower r_items r_sizes t_items t_sizes d_items d_sizes st_size st_need st_lifted st_licked st_morning st_tally st_kinds st_places st_lengths st_downs st_covers sl_size sl_need sl_lifted sl_licked sl_morning sl_tally sl_kinds sl_places sl_lengths sl_downs sl_covers as_size as_need as_lifted as_licked as_morning as_tally as_kinds as_places as_lengths as_downs as_covers text place count least inAll inSome scratch findings) := by
  refine Ci_of (own := RX4) (by decide) (Nat.le_of_ble_eq_true rfl) rfl ?_
  intro p e s m below meth c Q A AV hc hret ls hl hG
  obtain ⟨hx, hb, hml, hown, hts, hK, hA, hz⟩ := id hc
  have hl : lv_has ls 4 [(0, .ref (ad 0)), (1, .int x1)] := hl
  have hL_37 : ∀ (x1 : Int32) (x2 : Int32) (o : (Int32 ⊕ Unit)), (∀ (r : Int32), o = .inl r → ∀ (H : Heap) (locs : List Loc) (pc : Nat) (ls : Array Slot), St D A s (wX4 cI ad finding asked upper lower r_items r_sizes t_items t_sizes d_items d_sizes st_size st_need st_lifted st_licked st_morning st_tally st_kinds st_places st_lengths st_downs st_covers sl_size sl_need sl_lifted sl_licked sl_morning sl_tally sl_kinds sl_places sl_lengths sl_downs sl_covers as_size as_need as_lifted as_licked as_morning as_tally as_kinds as_places as_lengths as_downs as_covers text place count least inAll inSome scratch findings) H locs → decode cX4_flawOfSeen pc = .ok (.ireturn, 1) → narrow .int (.int r) = .int r → W p l e rmX4_flawOfSeen s m AV below meth c H locs 0 0 Q (F0 m pc ls [.int r])) → (∀ (_ : Unit), o = .inr () → ∀ (ls : Array Slot) (H : Heap) (locs : List Loc), lv_has ls 4 [(0, .ref (ad 0))] → St D A s (wX4 cI ad finding asked upper lower r_items r_sizes t_items t_sizes d_items d_sizes st_size st_need st_lifted st_licked st_morning st_tally st_kinds st_places st_lengths st_downs st_covers sl_size sl_need sl_lifted sl_licked sl_morning sl_tally sl_kinds sl_places sl_lengths sl_downs sl_covers as_size as_need as_lifted as_licked as_morning as_tally as_kinds as_places as_lengths as_downs as_covers text place count least inAll inSome scratch findings) H locs → W p l e rmX4_flawOfSeen s m AV below meth c H locs 0 0 Q (F0 m 65 ls [])) → ∀ (n : Nat) (x3 : Int32), fX4_flawOfSeen_L37 r_items r_sizes x1 x2 n x3 = some o → ∀ (ls : Array Slot) (H : Heap) (locs : List Loc), lv_has ls 4 [(0, .ref (ad 0)), (1, .int x1), (2, .int x2), (3, .int x3)] → St D A s (wX4 cI ad finding asked upper lower r_items r_sizes t_items t_sizes d_items d_sizes st_size st_need st_lifted st_licked st_morning st_tally st_kinds st_places st_lengths st_downs st_covers sl_size sl_need sl_lifted sl_licked sl_morning sl_tally sl_kinds sl_places sl_lengths sl_downs sl_covers as_size as_need as_lifted as_licked as_morning as_tally as_kinds as_places as_lengths as_downs as_covers text place count least inAll inSome scratch findings) H locs → W p l e rmX4_flawOfSeen s m AV below meth c H locs 0 0 Q (F0 m 37 ls []) := by
    intro x1 x2 o KR KE n
    induction n with
    | zero =>
      intro x3 h
      exact nomatch (show none = some _ from h)
    | succ n ih =>
      intro x3 h ls H locs hl hG
      have h : fX4_flawOfSeen_B37 r_items r_sizes x1 x2 (fX4_flawOfSeen_L37 r_items r_sizes x1 x2 n) x3 = some o := h
      unfold fX4_flawOfSeen_B37 at h
      refine lv_iload_n hx hb dX4_flawOfSeen_37 rfl (lv_at hl 3 rfl) ?_
      refine lv_iload_n hx hb dX4_flawOfSeen_38 rfl (lv_at hl 2 rfl) ?_
      refine lv_icmp_ge (tgt := 65) hx hb dX4_flawOfSeen_39 (by decide) (fun c39 => ?_) (fun c39 => ?_)
      · rw [if_pos c39] at h
        cases h
        exact KE () rfl _ _ _ (lv_sub hl [0] rfl) hG
      · rw [if_neg c39] at h
        refine lv_aload_n hx hb dX4_flawOfSeen_42 rfl (lv_at hl 0 rfl) ?_
        refine x_get hc hG 0 rfl iX4 0 lX4_14 rfl dX4_flawOfSeen_43 ?_
        refine lv_iload_n hx hb dX4_flawOfSeen_46 rfl (lv_at hl 1 rfl) ?_
        refine lv_iload_n hx hb dX4_flawOfSeen_47 rfl (lv_at hl 3 rfl) ?_
        obtain ⟨v48, e48, h⟩ := bd1_some h
        refine x_vi (rest := []) (ws' := (wX4 cI ad finding asked upper lower r_items r_sizes t_items t_sizes d_items d_sizes st_size st_need st_lifted st_licked st_morning st_tally st_kinds st_places st_lengths st_downs st_covers sl_size sl_need sl_lifted sl_licked sl_morning sl_tally sl_kinds sl_places sl_lengths sl_downs sl_covers as_size as_need as_lifted as_licked as_morning as_tally as_kinds as_places as_lengths as_downs as_covers text place count least inAll inSome scratch findings)) hc hG (cc_X2_get (fun k => ad (1 + k)) 240 6 40 r_items r_sizes x1 x3 v48 e48) [1, 2, 3] [0, 4, 5, 6, 7, 8, 9, 10, 11, 12, 13, 14, 15, 16, 17, 18, 19, 20, 21, 22, 23, 24, 25, 26, 27, 28, 29, 30, 31] [0, 29, 30, 31, 1, 2, 3, 4, 5, 6, 7, 8, 9, 10, 11, 12, 13, 14, 15, 16, 17, 18, 19, 20, 21, 22, 23, 24, 25, 26, 27, 28] rfl rfl rfl 1 rfl rfl lX4_83 ⟨rfl, rfl, by decide, by decide⟩ rfl hl.1 (Nat.le_of_ble_eq_true rfl) rfl dX4_flawOfSeen_48 (fun H locs hG => ?_)
        obtain ⟨v51, e51, h⟩ := bd1_some h
        refine x_si0 (rest := []) hc hG (cc_X4_areLines v48 v51 e51) lX4_196 ⟨rfl, rfl, by decide, by decide⟩ rfl hl.1 (Nat.le_of_ble_eq_true rfl) rfl dX4_flawOfSeen_51 (fun H locs hG => ?_)
        refine lv_if_ne (tgt := 59) hx hb dX4_flawOfSeen_54 (by decide) (fun c54 => ?_) (fun c54 => ?_)
        · rw [if_neg c54] at h
          refine lv_iinc (v := (x3 + 1)) (lv' := [(3, .int (x3 + 1)), (0, .ref (ad 0)), (1, .int x1), (2, .int x2)]) hx hb dX4_flawOfSeen_59 hl (k := 3) rfl rfl (by decide) rfl (fun ls hl => ?_)
          refine lv_goto (tgt := 37) hx hb dX4_flawOfSeen_62 (by decide) ?_
          exact ih _ h _ _ _ (lv_sub hl [1, 2, 3, 0] rfl) hG
        · rw [if_pos c54] at h
          refine lv_iconst (v := 3) hx hb dX4_flawOfSeen_57 (by decide) ?_
          cases h
          exact KR _ rfl _ _ _ _ hG dX4_flawOfSeen_58 rfl
  unfold fX4_flawOfSeen at h
  refine lv_aload_n hx hb dX4_flawOfSeen_0 rfl (lv_at hl 0 rfl) ?_
  refine x_get hc hG 0 rfl iX4 0 lX4_14 rfl dX4_flawOfSeen_1 ?_
  refine lv_iload_n hx hb dX4_flawOfSeen_4 rfl (lv_at hl 1 rfl) ?_
  obtain ⟨v5, e5, h⟩ := bd1_some h
  refine x_vi (rest := []) (ws' := (wX4 cI ad finding asked upper lower r_items r_sizes t_items t_sizes d_items d_sizes st_size st_need st_lifted st_licked st_morning st_tally st_kinds st_places st_lengths st_downs st_covers sl_size sl_need sl_lifted sl_licked sl_morning sl_tally sl_kinds sl_places sl_lengths sl_downs sl_covers as_size as_need as_lifted as_licked as_morning as_tally as_kinds as_places as_lengths as_downs as_covers text place count least inAll inSome scratch findings)) hc hG (cc_X2_sizeOf (fun k => ad (1 + k)) 240 6 40 r_items r_sizes x1 v5 e5) [1, 2, 3] [0, 4, 5, 6, 7, 8, 9, 10, 11, 12, 13, 14, 15, 16, 17, 18, 19, 20, 21, 22, 23, 24, 25, 26, 27, 28, 29, 30, 31] [0, 29, 30, 31, 1, 2, 3, 4, 5, 6, 7, 8, 9, 10, 11, 12, 13, 14, 15, 16, 17, 18, 19, 20, 21, 22, 23, 24, 25, 26, 27, 28] rfl rfl rfl 1 rfl rfl lX4_105 ⟨rfl, rfl, by decide, by decide⟩ rfl hl.1 (Nat.le_of_ble_eq_true rfl) rfl dX4_flawOfSeen_5 (fun H locs hG => ?_)
  refine lv_istore_n (lv' := [(2, .int v5), (0, .ref (ad 0)), (1, .int x1)]) hx hb dX4_flawOfSeen_8 rfl hl (by decide) rfl (fun ls hl => ?_)
  refine lv_aload_n hx hb dX4_flawOfSeen_9 rfl (lv_at hl 1 rfl) ?_
  refine x_get hc hG 0 rfl iX4 0 lX4_14 rfl dX4_flawOfSeen_10 ?_
  refine lv_iload_n hx hb dX4_flawOfSeen_13 rfl (lv_at hl 2 rfl) ?_
  obtain ⟨v14, e14, h⟩ := bd1_some h
  refine x_vi (rest := []) (ws' := (wX4 cI ad finding asked upper lower r_items r_sizes t_items t_sizes d_items d_sizes st_size st_need st_lifted st_licked st_morning st_tally st_kinds st_places st_lengths st_downs st_covers sl_size sl_need sl_lifted sl_licked sl_morning sl_tally sl_kinds sl_places sl_lengths sl_downs sl_covers as_size as_need as_lifted as_licked as_morning as_tally as_kinds as_places as_lengths as_downs as_covers text place count least inAll inSome scratch findings)) hc hG (cc_X2_isMissing (fun k => ad (1 + k)) 240 6 40 r_items r_sizes x1 v14 e14) [1, 2, 3] [0, 4, 5, 6, 7, 8, 9, 10, 11, 12, 13, 14, 15, 16, 17, 18, 19, 20, 21, 22, 23, 24, 25, 26, 27, 28, 29, 30, 31] [0, 29, 30, 31, 1, 2, 3, 4, 5, 6, 7, 8, 9, 10, 11, 12, 13, 14, 15, 16, 17, 18, 19, 20, 21, 22, 23, 24, 25, 26, 27, 28] rfl rfl rfl 1 rfl rfl lX4_76 ⟨rfl, rfl, by decide, by decide⟩ rfl hl.1 (Nat.le_of_ble_eq_true rfl) rfl dX4_flawOfSeen_14 (fun H locs hG => ?_)
  refine lv_if_eq (tgt := 22) hx hb dX4_flawOfSeen_17 (by decide) (fun c17 => ?_) (fun c17 => ?_)
  · rw [if_pos c17] at h
    refine lv_iload_n hx hb dX4_flawOfSeen_22 rfl (lv_at hl 0 rfl) ?_
    refine lv_iconst (v := 1) hx hb dX4_flawOfSeen_23 (by decide) ?_
    refine lv_icmp_lt (tgt := 33) hx hb dX4_flawOfSeen_24 (by decide) (fun c24 => ?_) (fun c24 => ?_)
    · rw [if_pos c24] at h
      refine lv_iconst (v := 5) hx hb dX4_flawOfSeen_33 (by decide) ?_
      cases h
      exact hret _ _ _ _ hG dX4_flawOfSeen_34 rfl
    · rw [if_neg c24] at h
      refine lv_iload_n hx hb dX4_flawOfSeen_27 rfl (lv_at hl 0 rfl) ?_
      refine lv_bipush (v := 10) hx hb dX4_flawOfSeen_28 (by decide) ?_
      refine lv_icmp_le (tgt := 35) hx hb dX4_flawOfSeen_30 (by decide) (fun c30 => ?_) (fun c30 => ?_)
      · rw [if_pos c30] at h
        refine lv_iconst (v := 0) hx hb dX4_flawOfSeen_35 (by decide) ?_
        refine lv_istore_n (lv' := [(3, .int 0), (2, .int v5), (0, .ref (ad 0)), (1, .int x1)]) hx hb dX4_flawOfSeen_36 rfl hl (by decide) rfl (fun ls hl => ?_)
        rcases st0_some h with e37 | ⟨e37, h⟩
        · exact hL_37 _ _ _ (fun _ e H locs pc ls hG d hn => by cases e; exact hret _ _ _ _ hG d hn) (fun _ e => by cases e) _ _ e37 _ _ _ (lv_sub hl [2, 3, 1, 0] rfl) hG
        · refine hL_37 _ _ _ (fun _ e => by cases e) (fun _ e ls H locs hl hG => ?_) _ _ e37 _ _ _ (lv_sub hl [2, 3, 1, 0] rfl) hG
          cases e
          refine lv_iconst (v := 0) hx hb dX4_flawOfSeen_65 (by decide) ?_
          cases h
          exact hret _ _ _ _ hG dX4_flawOfSeen_66 rfl
      · rw [if_neg c30] at h
        refine lv_iconst (v := 5) hx hb dX4_flawOfSeen_33 (by decide) ?_
        cases h
        exact hret _ _ _ _ hG dX4_flawOfSeen_34 rfl
  · rw [if_neg c17] at h
    refine lv_iconst (v := 1) hx hb dX4_flawOfSeen_20 (by decide) ?_
    cases h
    exact hret _ _ _ _ hG dX4_flawOfSeen_21 rfl
set_option maxRecDepth 100000 in
set_option maxHeartbeats 4000000 in
theorem cc_X4_asideFits {l : Launch} {D : va_G} {cI : ClassId} {tL : Nat} (ad : Nat → Nat) (finding : Int32) (asked : Int32) (upper : Int64) (lower : Int64) (r_items : Nat → Int32) (r_sizes : Nat → Int32) (t_items : Nat → Int32) (t_sizes : Nat → Int32) (d_items : Nat → Int32) (d_sizes : Nat → Int32) (st_size : Int32) (st_need : Int32) (st_lifted : Int32) (st_licked : Int32) (st_morning : Int32) (st_tally : Int32) (st_kinds : Nat → Int32) (st_places : Nat → Int32) (st_lengths : Nat → Int32) (st_downs : Nat → Int32) (st_covers : Nat → Int32) (sl_size : Int32) (sl_need : Int32) (sl_lifted : Int32) (sl_licked : Int32) (sl_morning : Int32) (sl_tally : Int32) (sl_kinds : Nat → Int32) (sl_places : Nat → Int32) (sl_lengths : Nat → Int32) (sl_downs : Nat → Int32) (sl_covers : Nat → Int32) (as_size : Int32) (as_need : Int32) (as_lifted : Int32) (as_licked : Int32) (as_morning : Int32) (as_tally : Int32) (as_kinds : Nat → Int32) (as_places : Nat → Int32) (as_lengths : Nat → Int32) (as_downs : Nat → Int32) (as_covers : Nat → Int32) (text : Int32) (place : Int32) (count : Int32) (least : Int32) (inAll : Int32) (inSome : Int32) (scratch : Nat → Int32) (findings : Nat → Int32) (x1 : Int32) (r' : Int32) (as_morning' : Int32) (as_tally' : Int32) (as_places' : Nat → Int32) (as_downs' : Nat → Int32) (as_covers' : Nat → Int32) (h : fX4_asideFits r_items r_sizes as_size as_need as_lifted as_licked as_morning as_tally as_kinds as_places as_lengths as_downs as_covers x1 = some (r', as_morning', as_tally', as_places', as_downs', as_covers')) : Ci l D cI tL yX4_asideFits cX4_asideFits 4 .boolean rmX4_asideFits (wX4 cI ad finding asked upper lower r_items r_sizes t_items t_sizes d_items d_sizes st_size st_need st_lifted st_licked st_morning st_tally st_kinds st_places st_lengths st_downs st_covers sl_size sl_need sl_lifted sl_licked sl_morning sl_tally sl_kinds sl_places sl_lengths sl_downs sl_covers as_size as_need as_lifted as_licked as_morning as_tally as_kinds as_places as_lengths as_downs as_covers text place count least inAll inSome scratch findings) [.ref (ad 0), .int x1] r' (wX4 cI ad finding asked upper lower r_items r_sizes t_items t_sizes d_items d_sizes st_size st_need st_lifted st_licked st_morning st_tally st_kinds st_places st_lengths st_downs st_covers sl_size sl_need sl_lifted sl_licked sl_morning sl_tally sl_kinds sl_places sl_lengths sl_downs sl_covers as_size as_need as_lifted as_licked as_morning' as_tally' as_kinds as_places' as_lengths as_downs' as_covers' text place count least inAll inSome scratch findings) := by
  refine Ci_of (own := RX4) (by decide) (Nat.le_of_ble_eq_true rfl) rfl ?_
  intro p e s m below meth c Q A AV hc hret ls hl hG
  obtain ⟨hx, hb, hml, hown, hts, hK, hA, hz⟩ := id hc
  have hl : lv_has ls 4 [(0, .ref (ad 0)), (1, .int x1)] := hl
  have hL_11 : ∀ (x1 : Int32) (x2 : Int32) (o : ((Int32 × Int32 × Int32 × (Nat → Int32) × (Nat → Int32) × (Nat → Int32)) ⊕ (Int32 × Int32 × (Nat → Int32) × (Nat → Int32) × (Nat → Int32)))), (∀ (r : Int32) (as_morning_r : Int32) (as_tally_r : Int32) (as_places_r : Nat → Int32) (as_downs_r : Nat → Int32) (as_covers_r : Nat → Int32), o = .inl (r, as_morning_r, as_tally_r, as_places_r, as_downs_r, as_covers_r) → ∀ (H : Heap) (locs : List Loc) (pc : Nat) (ls : Array Slot), St D A s (wX4 cI ad finding asked upper lower r_items r_sizes t_items t_sizes d_items d_sizes st_size st_need st_lifted st_licked st_morning st_tally st_kinds st_places st_lengths st_downs st_covers sl_size sl_need sl_lifted sl_licked sl_morning sl_tally sl_kinds sl_places sl_lengths sl_downs sl_covers as_size as_need as_lifted as_licked as_morning_r as_tally_r as_kinds as_places_r as_lengths as_downs_r as_covers_r text place count least inAll inSome scratch findings) H locs → decode cX4_asideFits pc = .ok (.ireturn, 1) → narrow .boolean (.int r) = .int r → W p l e rmX4_asideFits s m AV below meth c H locs 0 0 Q (F0 m pc ls [.int r])) → (∀ (as_morning_o : Int32) (as_tally_o : Int32) (as_places_o : Nat → Int32) (as_downs_o : Nat → Int32) (as_covers_o : Nat → Int32), o = .inr (as_morning_o, as_tally_o, as_places_o, as_downs_o, as_covers_o) → ∀ (ls : Array Slot) (H : Heap) (locs : List Loc), lv_has ls 4 [(0, .ref (ad 0))] → St D A s (wX4 cI ad finding asked upper lower r_items r_sizes t_items t_sizes d_items d_sizes st_size st_need st_lifted st_licked st_morning st_tally st_kinds st_places st_lengths st_downs st_covers sl_size sl_need sl_lifted sl_licked sl_morning sl_tally sl_kinds sl_places sl_lengths sl_downs sl_covers as_size as_need as_lifted as_licked as_morning_o as_tally_o as_kinds as_places_o as_lengths as_downs_o as_covers_o text place count least inAll inSome scratch findings) H locs → W p l e rmX4_asideFits s m AV below meth c H locs 0 0 Q (F0 m 50 ls [])) → ∀ (n : Nat) (as_morning : Int32) (as_tally : Int32) (as_places : Nat → Int32) (as_downs : Nat → Int32) (as_covers : Nat → Int32) (x3 : Int32), fX4_asideFits_L11 r_items r_sizes as_size as_need as_lifted as_licked as_kinds as_lengths x1 x2 n as_morning as_tally as_places as_downs as_covers x3 = some o → ∀ (ls : Array Slot) (H : Heap) (locs : List Loc), lv_has ls 4 [(0, .ref (ad 0)), (1, .int x1), (2, .int x2), (3, .int x3)] → St D A s (wX4 cI ad finding asked upper lower r_items r_sizes t_items t_sizes d_items d_sizes st_size st_need st_lifted st_licked st_morning st_tally st_kinds st_places st_lengths st_downs st_covers sl_size sl_need sl_lifted sl_licked sl_morning sl_tally sl_kinds sl_places sl_lengths sl_downs sl_covers as_size as_need as_lifted as_licked as_morning as_tally as_kinds as_places as_lengths as_downs as_covers text place count least inAll inSome scratch findings) H locs → W p l e rmX4_asideFits s m AV below meth c H locs 0 0 Q (F0 m 11 ls []) := by
    intro x1 x2 o KR KE n
    induction n with
    | zero =>
      intro as_morning as_tally as_places as_downs as_covers x3 h
      exact nomatch (show none = some _ from h)
    | succ n ih =>
      intro as_morning as_tally as_places as_downs as_covers x3 h ls H locs hl hG
      have h : fX4_asideFits_B11 r_items r_sizes as_size as_need as_lifted as_licked as_kinds as_lengths x1 x2 (fX4_asideFits_L11 r_items r_sizes as_size as_need as_lifted as_licked as_kinds as_lengths x1 x2 n) as_morning as_tally as_places as_downs as_covers x3 = some o := h
      unfold fX4_asideFits_B11 at h
      refine lv_iload_n hx hb dX4_asideFits_11 rfl (lv_at hl 3 rfl) ?_
      refine lv_iload_n hx hb dX4_asideFits_12 rfl (lv_at hl 2 rfl) ?_
      refine lv_icmp_ge (tgt := 50) hx hb dX4_asideFits_13 (by decide) (fun c13 => ?_) (fun c13 => ?_)
      · rw [if_pos c13] at h
        cases h
        exact KE _ _ _ _ _ rfl _ _ _ (lv_sub hl [0] rfl) hG
      · rw [if_neg c13] at h
        refine lv_aload_n hx hb dX4_asideFits_16 rfl (lv_at hl 0 rfl) ?_
        refine x_get hc hG 0 rfl iX4 5 lX4_38 rfl dX4_asideFits_17 ?_
        obtain ⟨as_morning_20, as_tally_20, as_places_20, as_downs_20, as_covers_20, e20, h⟩ := bd5_some h
        refine x_vv (rest := []) (ws' := (wX4 cI ad finding asked upper lower r_items r_sizes t_items t_sizes d_items d_sizes st_size st_need st_lifted st_licked st_morning st_tally st_kinds st_places st_lengths st_downs st_covers sl_size sl_need sl_lifted sl_licked sl_morning sl_tally sl_kinds sl_places sl_lengths sl_downs sl_covers as_size as_need as_lifted as_licked as_morning_20 as_tally_20 as_kinds as_places_20 as_lengths as_downs_20 as_covers_20 text place count least inAll inSome scratch findings)) hc hG (cc_X3_fall (fun k => ad (22 + k)) as_size as_need as_lifted as_licked as_morning as_tally as_kinds as_places as_lengths as_downs as_covers as_morning_20 as_tally_20 as_places_20 as_downs_20 as_covers_20 e20) [22, 23, 24, 25, 26, 27] [0, 1, 2, 3, 4, 5, 6, 7, 8, 9, 10, 11, 12, 13, 14, 15, 16, 17, 18, 19, 20, 21, 28, 29, 30, 31] [0, 1, 2, 3, 4, 5, 6, 7, 8, 9, 10, 11, 12, 13, 14, 15, 16, 17, 18, 19, 20, 21, 26, 27, 28, 29, 30, 31, 22, 23, 24, 25] rfl rfl rfl 22 rfl rfl lX4_193 ⟨rfl, rfl, by decide, by decide⟩ rfl hl.1 (Nat.le_of_ble_eq_true rfl) rfl dX4_asideFits_20 (fun H locs hG => ?_)
        refine lv_aload_n hx hb dX4_asideFits_23 rfl (lv_at hl 0 rfl) ?_
        refine x_get hc hG 0 rfl iX4 5 lX4_38 rfl dX4_asideFits_24 ?_
        obtain ⟨v27, e27, h⟩ := bd1_some h
        refine x_vi (rest := []) (ws' := (wX4 cI ad finding asked upper lower r_items r_sizes t_items t_sizes d_items d_sizes st_size st_need st_lifted st_licked st_morning st_tally st_kinds st_places st_lengths st_downs st_covers sl_size sl_need sl_lifted sl_licked sl_morning sl_tally sl_kinds sl_places sl_lengths sl_downs sl_covers as_size as_need as_lifted as_licked as_morning_20 as_tally_20 as_kinds as_places_20 as_lengths as_downs_20 as_covers_20 text place count least inAll inSome scratch findings)) hc hG (cc_X3_linesNow (fun k => ad (22 + k)) as_size as_need as_lifted as_licked as_morning_20 as_tally_20 as_kinds as_places_20 as_lengths as_downs_20 as_covers_20 v27 e27) [22, 23, 24, 25, 26, 27] [0, 1, 2, 3, 4, 5, 6, 7, 8, 9, 10, 11, 12, 13, 14, 15, 16, 17, 18, 19, 20, 21, 28, 29, 30, 31] [0, 1, 2, 3, 4, 5, 6, 7, 8, 9, 10, 11, 12, 13, 14, 15, 16, 17, 18, 19, 20, 21, 26, 27, 28, 29, 30, 31, 22, 23, 24, 25] rfl rfl rfl 22 rfl rfl lX4_142 ⟨rfl, rfl, by decide, by decide⟩ rfl hl.1 (Nat.le_of_ble_eq_true rfl) rfl dX4_asideFits_27 (fun H locs hG => ?_)
        refine lv_aload_n hx hb dX4_asideFits_30 rfl (lv_at hl 0 rfl) ?_
        refine x_get hc hG 0 rfl iX4 0 lX4_14 rfl dX4_asideFits_31 ?_
        refine lv_iload_n hx hb dX4_asideFits_34 rfl (lv_at hl 1 rfl) ?_
        refine lv_iload_n hx hb dX4_asideFits_35 rfl (lv_at hl 3 rfl) ?_
        obtain ⟨v36, e36, h⟩ := bd1_some h
        refine x_vi (rest := [.int v27]) (ws' := (wX4 cI ad finding asked upper lower r_items r_sizes t_items t_sizes d_items d_sizes st_size st_need st_lifted st_licked st_morning st_tally st_kinds st_places st_lengths st_downs st_covers sl_size sl_need sl_lifted sl_licked sl_morning sl_tally sl_kinds sl_places sl_lengths sl_downs sl_covers as_size as_need as_lifted as_licked as_morning_20 as_tally_20 as_kinds as_places_20 as_lengths as_downs_20 as_covers_20 text place count least inAll inSome scratch findings)) hc hG (cc_X2_get (fun k => ad (1 + k)) 240 6 40 r_items r_sizes x1 x3 v36 e36) [1, 2, 3] [0, 4, 5, 6, 7, 8, 9, 10, 11, 12, 13, 14, 15, 16, 17, 18, 19, 20, 21, 22, 23, 24, 25, 26, 27, 28, 29, 30, 31] [0, 29, 30, 31, 1, 2, 3, 4, 5, 6, 7, 8, 9, 10, 11, 12, 13, 14, 15, 16, 17, 18, 19, 20, 21, 22, 23, 24, 25, 26, 27, 28] rfl rfl rfl 1 rfl rfl lX4_83 ⟨rfl, rfl, by decide, by decide⟩ rfl hl.1 (Nat.le_of_ble_eq_true rfl) rfl dX4_asideFits_36 (fun H locs hG => ?_)
        refine lv_icmp_eq (tgt := 44) hx hb dX4_asideFits_39 (by decide) (fun c39 => ?_) (fun c39 => ?_)
        · rw [if_pos c39] at h
          refine lv_iinc (v := (x3 + 1)) (lv' := [(3, .int (x3 + 1)), (0, .ref (ad 0)), (1, .int x1), (2, .int x2)]) hx hb dX4_asideFits_44 hl (k := 3) rfl rfl (by decide) rfl (fun ls hl => ?_)
          refine lv_goto (tgt := 11) hx hb dX4_asideFits_47 (by decide) ?_
          exact ih _ _ _ _ _ _ h _ _ _ (lv_sub hl [1, 2, 3, 0] rfl) hG
        · rw [if_neg c39] at h
          refine lv_iconst (v := 0) hx hb dX4_asideFits_42 (by decide) ?_
          cases h
          exact KR _ _ _ _ _ _ rfl _ _ _ _ hG dX4_asideFits_43 rfl
  unfold fX4_asideFits at h
  refine lv_aload_n hx hb dX4_asideFits_0 rfl (lv_at hl 0 rfl) ?_
  refine x_get hc hG 0 rfl iX4 0 lX4_14 rfl dX4_asideFits_1 ?_
  refine lv_iload_n hx hb dX4_asideFits_4 rfl (lv_at hl 1 rfl) ?_
  obtain ⟨v5, e5, h⟩ := bd1_some h
  refine x_vi (rest := []) (ws' := (wX4 cI ad finding asked upper lower r_items r_sizes t_items t_sizes d_items d_sizes st_size st_need st_lifted st_licked st_morning st_tally st_kinds st_places st_lengths st_downs st_covers sl_size sl_need sl_lifted sl_licked sl_morning sl_tally sl_kinds sl_places sl_lengths sl_downs sl_covers as_size as_need as_lifted as_licked as_morning as_tally as_kinds as_places as_lengths as_downs as_covers text place count least inAll inSome scratch findings)) hc hG (cc_X2_sizeOf (fun k => ad (1 + k)) 240 6 40 r_items r_sizes x1 v5 e5) [1, 2, 3] [0, 4, 5, 6, 7, 8, 9, 10, 11, 12, 13, 14, 15, 16, 17, 18, 19, 20, 21, 22, 23, 24, 25, 26, 27, 28, 29, 30, 31] [0, 29, 30, 31, 1, 2, 3, 4, 5, 6, 7, 8, 9, 10, 11, 12, 13, 14, 15, 16, 17, 18, 19, 20, 21, 22, 23, 24, 25, 26, 27, 28] rfl rfl rfl 1 rfl rfl lX4_105 ⟨rfl, rfl, by decide, by decide⟩ rfl hl.1 (Nat.le_of_ble_eq_true rfl) rfl dX4_asideFits_5 (fun H locs hG => ?_)
  refine lv_istore_n (lv' := [(2, .int v5), (0, .ref (ad 0)), (1, .int x1)]) hx hb dX4_asideFits_8 rfl hl (by decide) rfl (fun ls hl => ?_)
  refine lv_iconst (v := 0) hx hb dX4_asideFits_9 (by decide) ?_
  refine lv_istore_n (lv' := [(3, .int 0), (2, .int v5), (0, .ref (ad 0)), (1, .int x1)]) hx hb dX4_asideFits_10 rfl hl (by decide) rfl (fun ls hl => ?_)
  rcases st5_some h with e11 | ⟨as_morning_L11, as_tally_L11, as_places_L11, as_downs_L11, as_covers_L11, e11, h⟩
  · exact hL_11 _ _ _ (fun _ _ _ _ _ _ e H locs pc ls hG d hn => by cases e; exact hret _ _ _ _ hG d hn) (fun _ _ _ _ _ e => by cases e) _ _ _ _ _ _ _ e11 _ _ _ (lv_sub hl [2, 3, 1, 0] rfl) hG
  · refine hL_11 _ _ _ (fun _ _ _ _ _ _ e => by cases e) (fun as_morning_L11 as_tally_L11 as_places_L11 as_downs_L11 as_covers_L11 e ls H locs hl hG => ?_) _ _ _ _ _ _ _ e11 _ _ _ (lv_sub hl [2, 3, 1, 0] rfl) hG
    cases e
    refine lv_iconst (v := 1) hx hb dX4_asideFits_50 (by decide) ?_
    cases h
    exact hret _ _ _ _ hG dX4_asideFits_51 rfl
set_option maxRecDepth 100000 in
set_option maxHeartbeats 4000000 in
theorem cc_X4_fittingPlaces {l : Launch} {D : va_G} {cI : ClassId} {tL : Nat} (ad : Nat → Nat) (finding : Int32) (asked : Int32) (upper : Int64) (lower : Int64) (r_items : Nat → Int32) (r_sizes : Nat → Int32) (t_items : Nat → Int32) (t_sizes : Nat → Int32) (d_items : Nat → Int32) (d_sizes : Nat → Int32) (st_size : Int32) (st_need : Int32) (st_lifted : Int32) (st_licked : Int32) (st_morning : Int32) (st_tally : Int32) (st_kinds : Nat → Int32) (st_places : Nat → Int32) (st_lengths : Nat → Int32) (st_downs : Nat → Int32) (st_covers : Nat → Int32) (sl_size : Int32) (sl_need : Int32) (sl_lifted : Int32) (sl_licked : Int32) (sl_morning : Int32) (sl_tally : Int32) (sl_kinds : Nat → Int32) (sl_places : Nat → Int32) (sl_lengths : Nat → Int32) (sl_downs : Nat → Int32) (sl_covers : Nat → Int32) (as_size : Int32) (as_need : Int32) (as_lifted : Int32) (as_licked : Int32) (as_morning : Int32) (as_tally : Int32) (as_kinds : Nat → Int32) (as_places : Nat → Int32) (as_lengths : Nat → Int32) (as_downs : Nat → Int32) (as_covers : Nat → Int32) (text : Int32) (place : Int32) (count : Int32) (least : Int32) (inAll : Int32) (inSome : Int32) (scratch : Nat → Int32) (findings : Nat → Int32) (x1 : Int32) (x2 : Int32) (r' : Int32) (as_size' : Int32) (as_need' : Int32) (as_lifted' : Int32) (as_licked' : Int32) (as_morning' : Int32) (as_tally' : Int32) (as_kinds' : Nat → Int32) (as_places' : Nat → Int32) (as_lengths' : Nat → Int32) (as_downs' : Nat → Int32) (as_covers' : Nat → Int32) (h : fX4_fittingPlaces r_items r_sizes sl_size sl_need sl_lifted sl_licked sl_morning sl_tally sl_kinds sl_places sl_lengths sl_downs sl_covers as_size as_need as_lifted as_licked as_morning as_tally as_kinds as_places as_lengths as_downs as_covers x1 x2 = some (r', as_size', as_need', as_lifted', as_licked', as_morning', as_tally', as_kinds', as_places', as_lengths', as_downs', as_covers')) : Ci l D cI tL yX4_fittingPlaces cX4_fittingPlaces 5 .int rmX4_fittingPlaces (wX4 cI ad finding asked upper lower r_items r_sizes t_items t_sizes d_items d_sizes st_size st_need st_lifted st_licked st_morning st_tally st_kinds st_places st_lengths st_downs st_covers sl_size sl_need sl_lifted sl_licked sl_morning sl_tally sl_kinds sl_places sl_lengths sl_downs sl_covers as_size as_need as_lifted as_licked as_morning as_tally as_kinds as_places as_lengths as_downs as_covers text place count least inAll inSome scratch findings) [.ref (ad 0), .int x1, .int x2] r' (wX4 cI ad finding asked upper lower r_items r_sizes t_items t_sizes d_items d_sizes st_size st_need st_lifted st_licked st_morning st_tally st_kinds st_places st_lengths st_downs st_covers sl_size sl_need sl_lifted sl_licked sl_morning sl_tally sl_kinds sl_places sl_lengths sl_downs sl_covers as_size' as_need' as_lifted' as_licked' as_morning' as_tally' as_kinds' as_places' as_lengths' as_downs' as_covers' text place count least inAll inSome scratch findings) := by
  refine Ci_of (own := RX4) (by decide) (Nat.le_of_ble_eq_true rfl) rfl ?_
  intro p e s m below meth c Q A AV hc hret ls hl hG
  obtain ⟨hx, hb, hml, hown, hts, hK, hA, hz⟩ := id hc
  have hl : lv_has ls 5 [(0, .ref (ad 0)), (1, .int x1), (2, .int x2)] := hl
  have hL_5 : ∀ (x1 : Int32) (x2 : Int32) (as_size_o : Int32) (as_need_o : Int32) (as_lifted_o : Int32) (as_licked_o : Int32) (as_morning_o : Int32) (as_tally_o : Int32) (as_kinds_o : Nat → Int32) (as_places_o : Nat → Int32) (as_lengths_o : Nat → Int32) (as_downs_o : Nat → Int32) (as_covers_o : Nat → Int32) (x3_o : Int32), (∀ (ls : Array Slot) (H : Heap) (locs : List Loc), lv_has ls 5 [(0, .ref (ad 0)), (3, .int x3_o)] → St D A s (wX4 cI ad finding asked upper lower r_items r_sizes t_items t_sizes d_items d_sizes st_size st_need st_lifted st_licked st_morning st_tally st_kinds st_places st_lengths st_downs st_covers sl_size sl_need sl_lifted sl_licked sl_morning sl_tally sl_kinds sl_places sl_lengths sl_downs sl_covers as_size_o as_need_o as_lifted_o as_licked_o as_morning_o as_tally_o as_kinds_o as_places_o as_lengths_o as_downs_o as_covers_o text place count least inAll inSome scratch findings) H locs → W p l e rmX4_fittingPlaces s m AV below meth c H locs 0 0 Q (F0 m 62 ls [])) → ∀ (n : Nat) (as_size : Int32) (as_need : Int32) (as_lifted : Int32) (as_licked : Int32) (as_morning : Int32) (as_tally : Int32) (as_kinds : Nat → Int32) (as_places : Nat → Int32) (as_lengths : Nat → Int32) (as_downs : Nat → Int32) (as_covers : Nat → Int32) (x3 : Int32) (x4 : Int32), fX4_fittingPlaces_L5 r_items r_sizes sl_size sl_need sl_lifted sl_licked sl_morning sl_tally sl_kinds sl_places sl_lengths sl_downs sl_covers x1 x2 n as_size as_need as_lifted as_licked as_morning as_tally as_kinds as_places as_lengths as_downs as_covers x3 x4 = some (as_size_o, as_need_o, as_lifted_o, as_licked_o, as_morning_o, as_tally_o, as_kinds_o, as_places_o, as_lengths_o, as_downs_o, as_covers_o, x3_o) → ∀ (ls : Array Slot) (H : Heap) (locs : List Loc), lv_has ls 5 [(0, .ref (ad 0)), (1, .int x1), (2, .int x2), (3, .int x3), (4, .int x4)] → St D A s (wX4 cI ad finding asked upper lower r_items r_sizes t_items t_sizes d_items d_sizes st_size st_need st_lifted st_licked st_morning st_tally st_kinds st_places st_lengths st_downs st_covers sl_size sl_need sl_lifted sl_licked sl_morning sl_tally sl_kinds sl_places sl_lengths sl_downs sl_covers as_size as_need as_lifted as_licked as_morning as_tally as_kinds as_places as_lengths as_downs as_covers text place count least inAll inSome scratch findings) H locs → W p l e rmX4_fittingPlaces s m AV below meth c H locs 0 0 Q (F0 m 5 ls []) := by
    intro x1 x2 as_size_o as_need_o as_lifted_o as_licked_o as_morning_o as_tally_o as_kinds_o as_places_o as_lengths_o as_downs_o as_covers_o x3_o KE n
    induction n with
    | zero =>
      intro as_size as_need as_lifted as_licked as_morning as_tally as_kinds as_places as_lengths as_downs as_covers x3 x4 h
      exact nomatch (show none = some _ from h)
    | succ n ih =>
      intro as_size as_need as_lifted as_licked as_morning as_tally as_kinds as_places as_lengths as_downs as_covers x3 x4 h ls H locs hl hG
      have h : fX4_fittingPlaces_B5 r_items r_sizes sl_size sl_need sl_lifted sl_licked sl_morning sl_tally sl_kinds sl_places sl_lengths sl_downs sl_covers x1 x2 (fX4_fittingPlaces_L5 r_items r_sizes sl_size sl_need sl_lifted sl_licked sl_morning sl_tally sl_kinds sl_places sl_lengths sl_downs sl_covers x1 x2 n) as_size as_need as_lifted as_licked as_morning as_tally as_kinds as_places as_lengths as_downs as_covers x3 x4 = some (as_size_o, as_need_o, as_lifted_o, as_licked_o, as_morning_o, as_tally_o, as_kinds_o, as_places_o, as_lengths_o, as_downs_o, as_covers_o, x3_o) := h
      have hj_56 : ∀ (as_size : Int32) (as_need : Int32) (as_lifted : Int32) (as_licked : Int32) (as_morning : Int32) (as_tally : Int32) (as_kinds : Nat → Int32) (as_places : Nat → Int32) (as_lengths : Nat → Int32) (as_downs : Nat → Int32) (as_covers : Nat → Int32) (x3 : Int32) (x4 : Int32) , fX4_fittingPlaces_j56 (fX4_fittingPlaces_L5 r_items r_sizes sl_size sl_need sl_lifted sl_licked sl_morning sl_tally sl_kinds sl_places sl_lengths sl_downs sl_covers x1 x2 n) r_items r_sizes sl_size sl_need sl_lifted sl_licked sl_morning sl_tally sl_kinds sl_places sl_lengths sl_downs sl_covers as_size as_need as_lifted as_licked as_morning as_tally as_kinds as_places as_lengths as_downs as_covers x1 x2 x3 x4 = some (as_size_o, as_need_o, as_lifted_o, as_licked_o, as_morning_o, as_tally_o, as_kinds_o, as_places_o, as_lengths_o, as_downs_o, as_covers_o, x3_o) → ∀ (ls : Array Slot) (H : Heap) (locs : List Loc), lv_has ls 5 [(0, .ref (ad 0)), (1, .int x1), (2, .int x2), (3, .int x3), (4, .int x4)] → St D A s (wX4 cI ad finding asked upper lower r_items r_sizes t_items t_sizes d_items d_sizes st_size st_need st_lifted st_licked st_morning st_tally st_kinds st_places st_lengths st_downs st_covers sl_size sl_need sl_lifted sl_licked sl_morning sl_tally sl_kinds sl_places sl_lengths sl_downs sl_covers as_size as_need as_lifted as_licked as_morning as_tally as_kinds as_places as_lengths as_downs as_covers text place count least inAll inSome scratch findings) H locs → W p l e rmX4_fittingPlaces s m AV below meth c H locs 0 0 Q (F0 m 56 ls []) := by
        intro as_size as_need as_lifted as_licked as_morning as_tally as_kinds as_places as_lengths as_downs as_covers x3 x4 h ls H locs hl hG
        unfold fX4_fittingPlaces_j56 at h
        refine lv_iinc (v := (x4 + 1)) (lv' := [(4, .int (x4 + 1)), (0, .ref (ad 0)), (1, .int x1), (2, .int x2), (3, .int x3)]) hx hb dX4_fittingPlaces_56 hl (k := 4) rfl rfl (by decide) rfl (fun ls hl => ?_)
        refine lv_goto (tgt := 5) hx hb dX4_fittingPlaces_59 (by decide) ?_
        exact ih _ _ _ _ _ _ _ _ _ _ _ _ _ h _ _ _ (lv_sub hl [1, 2, 3, 4, 0] rfl) hG
      unfold fX4_fittingPlaces_B5 at h
      refine lv_iload hx hb dX4_fittingPlaces_5 (lv_at hl 4 rfl) ?_
      refine lv_bipush (v := 16) hx hb dX4_fittingPlaces_7 (by decide) ?_
      refine lv_icmp_ge (tgt := 62) hx hb dX4_fittingPlaces_9 (by decide) (fun c9 => ?_) (fun c9 => ?_)
      · rw [if_pos c9] at h
        cases h
        exact KE _ _ _ (lv_sub hl [0, 3] rfl) hG
      · rw [if_neg c9] at h
        refine lv_aload_n hx hb dX4_fittingPlaces_12 rfl (lv_at hl 0 rfl) ?_
        refine x_get hc hG 0 rfl iX4 5 lX4_38 rfl dX4_fittingPlaces_13 ?_
        refine lv_aload_n hx hb dX4_fittingPlaces_16 rfl (lv_at hl 0 rfl) ?_
        refine x_get hc hG 0 rfl iX4 4 lX4_35 rfl dX4_fittingPlaces_17 ?_
        obtain ⟨as_size_20, as_need_20, as_lifted_20, as_licked_20, as_morning_20, as_tally_20, as_kinds_20, as_places_20, as_lengths_20, as_downs_20, as_covers_20, e20, h⟩ := bd11_some h
        refine x_vv (rest := []) (ws' := (wX4 cI ad finding asked upper lower r_items r_sizes t_items t_sizes d_items d_sizes st_size st_need st_lifted st_licked st_morning st_tally st_kinds st_places st_lengths st_downs st_covers sl_size sl_need sl_lifted sl_licked sl_morning sl_tally sl_kinds sl_places sl_lengths sl_downs sl_covers as_size_20 as_need_20 as_lifted_20 as_licked_20 as_morning_20 as_tally_20 as_kinds_20 as_places_20 as_lengths_20 as_downs_20 as_covers_20 text place count least inAll inSome scratch findings)) hc hG (cc_X3_take (fun k => match k with | 0 => ad 22 | 1 => ad 23 | 2 => ad 24 | 3 => ad 25 | 4 => ad 26 | 5 => ad 27 | 6 => ad 16 | 7 => ad 17 | 8 => ad 18 | 9 => ad 19 | 10 => ad 20 | _ => ad 21) as_size as_need as_lifted as_licked as_morning as_tally as_kinds as_places as_lengths as_downs as_covers sl_size sl_need sl_lifted sl_licked sl_morning sl_tally sl_kinds sl_places sl_lengths sl_downs sl_covers as_size_20 as_need_20 as_lifted_20 as_licked_20 as_morning_20 as_tally_20 as_kinds_20 as_places_20 as_lengths_20 as_downs_20 as_covers_20 e20) [22, 23, 24, 25, 26, 27, 16, 17, 18, 19, 20, 21] [0, 1, 2, 3, 4, 5, 6, 7, 8, 9, 10, 11, 12, 13, 14, 15, 28, 29, 30, 31] [0, 1, 2, 3, 4, 5, 6, 7, 8, 9, 10, 11, 12, 13, 14, 15, 26, 27, 28, 29, 30, 31, 20, 21, 22, 23, 24, 25, 16, 17, 18, 19] rfl rfl rfl 22 rfl rfl lX4_114 ⟨rfl, rfl, by decide, by decide⟩ rfl hl.1 (Nat.le_of_ble_eq_true rfl) rfl dX4_fittingPlaces_20 (fun H locs hG => ?_)
        refine lv_aload_n hx hb dX4_fittingPlaces_23 rfl (lv_at hl 0 rfl) ?_
        refine x_get hc hG 0 rfl iX4 5 lX4_38 rfl dX4_fittingPlaces_24 ?_
        refine lv_iload_n hx hb dX4_fittingPlaces_27 rfl (lv_at hl 1 rfl) ?_
        refine lv_iload hx hb dX4_fittingPlaces_28 (lv_at hl 4 rfl) ?_
        refine lv_aload_n hx hb dX4_fittingPlaces_30 rfl (lv_at hl 0 rfl) ?_
        refine x_get hc hG 0 rfl iX4 4 lX4_35 rfl dX4_fittingPlaces_31 ?_
        refine lv_iload_n hx hb dX4_fittingPlaces_34 rfl (lv_at hl 1 rfl) ?_
        obtain ⟨v35, e35, h⟩ := bd1_some h
        refine x_vi (rest := [.int x4, .int x1, .ref (ad 22)]) (ws' := (wX4 cI ad finding asked upper lower r_items r_sizes t_items t_sizes d_items d_sizes st_size st_need st_lifted st_licked st_morning st_tally st_kinds st_places st_lengths st_downs st_covers sl_size sl_need sl_lifted sl_licked sl_morning sl_tally sl_kinds sl_places sl_lengths sl_downs sl_covers as_size_20 as_need_20 as_lifted_20 as_licked_20 as_morning_20 as_tally_20 as_kinds_20 as_places_20 as_lengths_20 as_downs_20 as_covers_20 text place count least inAll inSome scratch findings)) hc hG (cc_X3_downOf (fun k => ad (16 + k)) sl_size sl_need sl_lifted sl_licked sl_morning sl_tally sl_kinds sl_places sl_lengths sl_downs sl_covers x1 v35 e35) [16, 17, 18, 19, 20, 21] [0, 1, 2, 3, 4, 5, 6, 7, 8, 9, 10, 11, 12, 13, 14, 15, 22, 23, 24, 25, 26, 27, 28, 29, 30, 31] [0, 1, 2, 3, 4, 5, 6, 7, 8, 9, 10, 11, 12, 13, 14, 15, 26, 27, 28, 29, 30, 31, 16, 17, 18, 19, 20, 21, 22, 23, 24, 25] rfl rfl rfl 16 rfl rfl lX4_149 ⟨rfl, rfl, by decide, by decide⟩ rfl hl.1 (Nat.le_of_ble_eq_true rfl) rfl dX4_fittingPlaces_35 (fun H locs hG => ?_)
        obtain ⟨as_places_38, as_downs_38, as_covers_38, e38, h⟩ := bd3_some h
        refine x_vv (rest := []) (ws' := (wX4 cI ad finding asked upper lower r_items r_sizes t_items t_sizes d_items d_sizes st_size st_need st_lifted st_licked st_morning st_tally st_kinds st_places st_lengths st_downs st_covers sl_size sl_need sl_lifted sl_licked sl_morning sl_tally sl_kinds sl_places sl_lengths sl_downs sl_covers as_size_20 as_need_20 as_lifted_20 as_licked_20 as_morning_20 as_tally_20 as_kinds_20 as_places_38 as_lengths_20 as_downs_38 as_covers_38 text place count least inAll inSome scratch findings)) hc hG (cc_X3_settle (fun k => ad (22 + k)) as_size_20 as_need_20 as_lifted_20 as_licked_20 as_morning_20 as_tally_20 as_kinds_20 as_places_20 as_lengths_20 as_downs_20 as_covers_20 x1 x4 v35 as_places_38 as_downs_38 as_covers_38 e38) [22, 23, 24, 25, 26, 27] [0, 1, 2, 3, 4, 5, 6, 7, 8, 9, 10, 11, 12, 13, 14, 15, 16, 17, 18, 19, 20, 21, 28, 29, 30, 31] [0, 1, 2, 3, 4, 5, 6, 7, 8, 9, 10, 11, 12, 13, 14, 15, 16, 17, 18, 19, 20, 21, 26, 27, 28, 29, 30, 31, 22, 23, 24, 25] rfl rfl rfl 22 rfl rfl lX4_336 ⟨rfl, rfl, by decide, by decide⟩ rfl hl.1 (Nat.le_of_ble_eq_true rfl) rfl dX4_fittingPlaces_38 (fun H locs hG => ?_)
        refine lv_aload_n hx hb dX4_fittingPlaces_41 rfl (lv_at hl 0 rfl) ?_
        refine lv_iload_n hx hb dX4_fittingPlaces_42 rfl (lv_at hl 2 rfl) ?_
        obtain ⟨v43, as_morning_43, as_tally_43, as_places_43, as_downs_43, as_covers_43, e43, h⟩ := bd6_some h
        refine x_vi (rest := []) (ws' := (wX4 cI ad finding asked upper lower r_items r_sizes t_items t_sizes d_items d_sizes st_size st_need st_lifted st_licked st_morning st_tally st_kinds st_places st_lengths st_downs st_covers sl_size sl_need sl_lifted sl_licked sl_morning sl_tally sl_kinds sl_places sl_lengths sl_downs sl_covers as_size_20 as_need_20 as_lifted_20 as_licked_20 as_morning_43 as_tally_43 as_kinds_20 as_places_43 as_lengths_20 as_downs_43 as_covers_43 text place count least inAll inSome scratch findings)) hc hG (cc_X4_asideFits ad finding asked upper lower r_items r_sizes t_items t_sizes d_items d_sizes st_size st_need st_lifted st_licked st_morning st_tally st_kinds st_places st_lengths st_downs st_covers sl_size sl_need sl_lifted sl_licked sl_morning sl_tally sl_kinds sl_places sl_lengths sl_downs sl_covers as_size_20 as_need_20 as_lifted_20 as_licked_20 as_morning_20 as_tally_20 as_kinds_20 as_places_38 as_lengths_20 as_downs_38 as_covers_38 text place count least inAll inSome scratch findings x2 v43 as_morning_43 as_tally_43 as_places_43 as_downs_43 as_covers_43 e43) [0, 1, 2, 3, 4, 5, 6, 7, 8, 9, 10, 11, 12, 13, 14, 15, 16, 17, 18, 19, 20, 21, 22, 23, 24, 25, 26, 27, 28, 29, 30, 31] [] [0, 1, 2, 3, 4, 5, 6, 7, 8, 9, 10, 11, 12, 13, 14, 15, 16, 17, 18, 19, 20, 21, 22, 23, 24, 25, 26, 27, 28, 29, 30, 31] rfl rfl rfl 0 rfl rfl lX4_339 ⟨rfl, rfl, by decide, by decide⟩ rfl hl.1 (Nat.le_of_ble_eq_true rfl) rfl dX4_fittingPlaces_43 (fun H locs hG => ?_)
        refine lv_if_eq (tgt := 56) hx hb dX4_fittingPlaces_46 (by decide) (fun c46 => ?_) (fun c46 => ?_)
        · rw [if_pos c46] at h
          exact hj_56 _ _ _ _ _ _ _ _ _ _ _ _ _ h _ _ _ (lv_sub hl [0, 1, 2, 3, 4] rfl) hG
        · rw [if_neg c46] at h
          refine lv_iload_n hx hb dX4_fittingPlaces_49 rfl (lv_at hl 3 rfl) ?_
          refine lv_iconst (v := 1) hx hb dX4_fittingPlaces_50 (by decide) ?_
          refine lv_iload hx hb dX4_fittingPlaces_51 (lv_at hl 4 rfl) ?_
          refine lv_ishl hx hb dX4_fittingPlaces_53 ?_
          refine lv_ior hx hb dX4_fittingPlaces_54 ?_
          refine lv_istore_n (lv' := [(3, .int (x3 ||| ((1 : Int32) <<< (x4 &&& 31)))), (0, .ref (ad 0)), (1, .int x1), (2, .int x2), (4, .int x4)]) hx hb dX4_fittingPlaces_55 rfl hl (by decide) rfl (fun ls hl => ?_)
          exact hj_56 _ _ _ _ _ _ _ _ _ _ _ _ _ h _ _ _ (lv_sub hl [1, 2, 3, 0, 4] rfl) hG
  unfold fX4_fittingPlaces at h
  refine lv_iconst (v := 0) hx hb dX4_fittingPlaces_0 (by decide) ?_
  refine lv_istore_n (lv' := [(3, .int 0), (0, .ref (ad 0)), (1, .int x1), (2, .int x2)]) hx hb dX4_fittingPlaces_1 rfl hl (by decide) rfl (fun ls hl => ?_)
  refine lv_iconst (v := 0) hx hb dX4_fittingPlaces_2 (by decide) ?_
  refine lv_istore (lv' := [(4, .int 0), (3, .int 0), (0, .ref (ad 0)), (1, .int x1), (2, .int x2)]) hx hb dX4_fittingPlaces_3 hl (by decide) rfl (fun ls hl => ?_)
  obtain ⟨as_size_L5, as_need_L5, as_lifted_L5, as_licked_L5, as_morning_L5, as_tally_L5, as_kinds_L5, as_places_L5, as_lengths_L5, as_downs_L5, as_covers_L5, x3_L5, e5, h⟩ := bd12_some h
  refine hL_5 _ _ _ _ _ _ _ _ _ _ _ _ _ _ (fun ls H locs hl hG => ?_) _ _ _ _ _ _ _ _ _ _ _ _ _ _ e5 _ _ _ (lv_sub hl [2, 3, 4, 1, 0] rfl) hG
  refine lv_iload_n hx hb dX4_fittingPlaces_62 rfl (lv_at hl 1 rfl) ?_
  cases h
  exact hret _ _ _ _ hG dX4_fittingPlaces_63 rfl
set_option maxRecDepth 100000 in
set_option maxHeartbeats 4000000 in
theorem cc_X4_places {l : Launch} {D : va_G} {cI : ClassId} {tL : Nat} (ad : Nat → Nat) (finding : Int32) (asked : Int32) (upper : Int64) (lower : Int64) (r_items : Nat → Int32) (r_sizes : Nat → Int32) (t_items : Nat → Int32) (t_sizes : Nat → Int32) (d_items : Nat → Int32) (d_sizes : Nat → Int32) (st_size : Int32) (st_need : Int32) (st_lifted : Int32) (st_licked : Int32) (st_morning : Int32) (st_tally : Int32) (st_kinds : Nat → Int32) (st_places : Nat → Int32) (st_lengths : Nat → Int32) (st_downs : Nat → Int32) (st_covers : Nat → Int32) (sl_size : Int32) (sl_need : Int32) (sl_lifted : Int32) (sl_licked : Int32) (sl_morning : Int32) (sl_tally : Int32) (sl_kinds : Nat → Int32) (sl_places : Nat → Int32) (sl_lengths : Nat → Int32) (sl_downs : Nat → Int32) (sl_covers : Nat → Int32) (as_size : Int32) (as_need : Int32) (as_lifted : Int32) (as_licked : Int32) (as_morning : Int32) (as_tally : Int32) (as_kinds : Nat → Int32) (as_places : Nat → Int32) (as_lengths : Nat → Int32) (as_downs : Nat → Int32) (as_covers : Nat → Int32) (text : Int32) (place : Int32) (count : Int32) (least : Int32) (inAll : Int32) (inSome : Int32) (scratch : Nat → Int32) (findings : Nat → Int32) (x1 : Int32) (x2 : Int32) (r' : Int32) (finding' : Int32) (as_size' : Int32) (as_need' : Int32) (as_lifted' : Int32) (as_licked' : Int32) (as_morning' : Int32) (as_tally' : Int32) (as_kinds' : Nat → Int32) (as_places' : Nat → Int32) (as_lengths' : Nat → Int32) (as_downs' : Nat → Int32) (as_covers' : Nat → Int32) (findings' : Nat → Int32) (h : fX4_places finding r_items r_sizes sl_size sl_need sl_lifted sl_licked sl_morning sl_tally sl_kinds sl_places sl_lengths sl_downs sl_covers as_size as_need as_lifted as_licked as_morning as_tally as_kinds as_places as_lengths as_downs as_covers findings x1 x2 = some (r', finding', as_size', as_need', as_lifted', as_licked', as_morning', as_tally', as_kinds', as_places', as_lengths', as_downs', as_covers', findings')) : Ci l D cI tL yX4_places cX4_places 4 .int rmX4_places (wX4 cI ad finding asked upper lower r_items r_sizes t_items t_sizes d_items d_sizes st_size st_need st_lifted st_licked st_morning st_tally st_kinds st_places st_lengths st_downs st_covers sl_size sl_need sl_lifted sl_licked sl_morning sl_tally sl_kinds sl_places sl_lengths sl_downs sl_covers as_size as_need as_lifted as_licked as_morning as_tally as_kinds as_places as_lengths as_downs as_covers text place count least inAll inSome scratch findings) [.ref (ad 0), .int x1, .int x2] r' (wX4 cI ad finding' asked upper lower r_items r_sizes t_items t_sizes d_items d_sizes st_size st_need st_lifted st_licked st_morning st_tally st_kinds st_places st_lengths st_downs st_covers sl_size sl_need sl_lifted sl_licked sl_morning sl_tally sl_kinds sl_places sl_lengths sl_downs sl_covers as_size' as_need' as_lifted' as_licked' as_morning' as_tally' as_kinds' as_places' as_lengths' as_downs' as_covers' text place count least inAll inSome scratch findings') := by
  refine Ci_of (own := RX4) (by decide) (Nat.le_of_ble_eq_true rfl) rfl ?_
  intro p e s m below meth c Q A AV hc hret ls hl hG
  obtain ⟨hx, hb, hml, hown, hts, hK, hA, hz⟩ := id hc
  have hl : lv_has ls 4 [(0, .ref (ad 0)), (1, .int x1), (2, .int x2)] := hl
  unfold fX4_places at h
  refine lv_aload_n hx hb dX4_places_0 rfl (lv_at hl 0 rfl) ?_
  refine x_get hc hG 0 rfl iX4 4 lX4_35 rfl dX4_places_1 ?_
  refine lv_iload_n hx hb dX4_places_4 rfl (lv_at hl 1 rfl) ?_
  obtain ⟨v5, e5, h⟩ := bd1_some h
  refine x_vi (rest := []) (ws' := (wX4 cI ad finding asked upper lower r_items r_sizes t_items t_sizes d_items d_sizes st_size st_need st_lifted st_licked st_morning st_tally st_kinds st_places st_lengths st_downs st_covers sl_size sl_need sl_lifted sl_licked sl_morning sl_tally sl_kinds sl_places sl_lengths sl_downs sl_covers as_size as_need as_lifted as_licked as_morning as_tally as_kinds as_places as_lengths as_downs as_covers text place count least inAll inSome scratch findings)) hc hG (cc_X3_has (fun k => ad (16 + k)) sl_size sl_need sl_lifted sl_licked sl_morning sl_tally sl_kinds sl_places sl_lengths sl_downs sl_covers x1 v5 e5) [16, 17, 18, 19, 20, 21] [0, 1, 2, 3, 4, 5, 6, 7, 8, 9, 10, 11, 12, 13, 14, 15, 22, 23, 24, 25, 26, 27, 28, 29, 30, 31] [0, 1, 2, 3, 4, 5, 6, 7, 8, 9, 10, 11, 12, 13, 14, 15, 26, 27, 28, 29, 30, 31, 16, 17, 18, 19, 20, 21, 22, 23, 24, 25] rfl rfl rfl 16 rfl rfl lX4_122 ⟨rfl, rfl, by decide, by decide⟩ rfl hl.1 (Nat.le_of_ble_eq_true rfl) rfl dX4_places_5 (fun H locs hG => ?_)
  refine lv_if_eq (tgt := 18) hx hb dX4_places_8 (by decide) (fun c8 => ?_) (fun c8 => ?_)
  · rw [if_pos c8] at h
    refine lv_iconst (v := (-1)) hx hb dX4_places_18 (by decide) ?_
    cases h
    exact hret _ _ _ _ hG dX4_places_19 rfl
  · rw [if_neg c8] at h
    refine lv_iload_n hx hb dX4_places_11 rfl (lv_at hl 2 rfl) ?_
    obtain ⟨v12, e12, h⟩ := bd1_some h
    refine x_si0 (rest := []) hc hG (cc_X4_isRow x2 v12 e12) lX4_68 ⟨rfl, rfl, by decide, by decide⟩ rfl hl.1 (Nat.le_of_ble_eq_true rfl) rfl dX4_places_12 (fun H locs hG => ?_)
    refine lv_if_ne (tgt := 20) hx hb dX4_places_15 (by decide) (fun c15 => ?_) (fun c15 => ?_)
    · rw [if_neg c15] at h
      refine lv_aload_n hx hb dX4_places_20 rfl (lv_at hl 0 rfl) ?_
      refine lv_iload_n hx hb dX4_places_21 rfl (lv_at hl 2 rfl) ?_
      obtain ⟨v22, e22, h⟩ := bd1_some h
      refine x_vi (rest := []) (ws' := (wX4 cI ad finding asked upper lower r_items r_sizes t_items t_sizes d_items d_sizes st_size st_need st_lifted st_licked st_morning st_tally st_kinds st_places st_lengths st_downs st_covers sl_size sl_need sl_lifted sl_licked sl_morning sl_tally sl_kinds sl_places sl_lengths sl_downs sl_covers as_size as_need as_lifted as_licked as_morning as_tally as_kinds as_places as_lengths as_downs as_covers text place count least inAll inSome scratch findings)) hc hG (cc_X4_flawOfSeen ad finding asked upper lower r_items r_sizes t_items t_sizes d_items d_sizes st_size st_need st_lifted st_licked st_morning st_tally st_kinds st_places st_lengths st_downs st_covers sl_size sl_need sl_lifted sl_licked sl_morning sl_tally sl_kinds sl_places sl_lengths sl_downs sl_covers as_size as_need as_lifted as_licked as_morning as_tally as_kinds as_places as_lengths as_downs as_covers text place count least inAll inSome scratch findings x2 v22 e22) [0, 1, 2, 3, 4, 5, 6, 7, 8, 9, 10, 11, 12, 13, 14, 15, 16, 17, 18, 19, 20, 21, 22, 23, 24, 25, 26, 27, 28, 29, 30, 31] [] [0, 1, 2, 3, 4, 5, 6, 7, 8, 9, 10, 11, 12, 13, 14, 15, 16, 17, 18, 19, 20, 21, 22, 23, 24, 25, 26, 27, 28, 29, 30, 31] rfl rfl rfl 0 rfl rfl lX4_241 ⟨rfl, rfl, by decide, by decide⟩ rfl hl.1 (Nat.le_of_ble_eq_true rfl) rfl dX4_places_22 (fun H locs hG => ?_)
      refine lv_istore_n (lv' := [(3, .int v22), (0, .ref (ad 0)), (1, .int x1), (2, .int x2)]) hx hb dX4_places_25 rfl hl (by decide) rfl (fun ls hl => ?_)
      refine lv_iload_n hx hb dX4_places_26 rfl (lv_at hl 0 rfl) ?_
      refine lv_if_eq (tgt := 38) hx hb dX4_places_27 (by decide) (fun c27 => ?_) (fun c27 => ?_)
      · rw [if_pos c27] at h
        refine lv_aload_n hx hb dX4_places_38 rfl (lv_at hl 1 rfl) ?_
        refine lv_iload_n hx hb dX4_places_39 rfl (lv_at hl 2 rfl) ?_
        refine lv_iload_n hx hb dX4_places_40 rfl (lv_at hl 3 rfl) ?_
        obtain ⟨v41, as_size_41, as_need_41, as_lifted_41, as_licked_41, as_morning_41, as_tally_41, as_kinds_41, as_places_41, as_lengths_41, as_downs_41, as_covers_41, e41, h⟩ := bd12_some h
        refine x_vi (rest := []) (ws' := (wX4 cI ad finding asked upper lower r_items r_sizes t_items t_sizes d_items d_sizes st_size st_need st_lifted st_licked st_morning st_tally st_kinds st_places st_lengths st_downs st_covers sl_size sl_need sl_lifted sl_licked sl_morning sl_tally sl_kinds sl_places sl_lengths sl_downs sl_covers as_size_41 as_need_41 as_lifted_41 as_licked_41 as_morning_41 as_tally_41 as_kinds_41 as_places_41 as_lengths_41 as_downs_41 as_covers_41 text place count least inAll inSome scratch findings)) hc hG (cc_X4_fittingPlaces ad finding asked upper lower r_items r_sizes t_items t_sizes d_items d_sizes st_size st_need st_lifted st_licked st_morning st_tally st_kinds st_places st_lengths st_downs st_covers sl_size sl_need sl_lifted sl_licked sl_morning sl_tally sl_kinds sl_places sl_lengths sl_downs sl_covers as_size as_need as_lifted as_licked as_morning as_tally as_kinds as_places as_lengths as_downs as_covers text place count least inAll inSome scratch findings x1 x2 v41 as_size_41 as_need_41 as_lifted_41 as_licked_41 as_morning_41 as_tally_41 as_kinds_41 as_places_41 as_lengths_41 as_downs_41 as_covers_41 e41) [0, 1, 2, 3, 4, 5, 6, 7, 8, 9, 10, 11, 12, 13, 14, 15, 16, 17, 18, 19, 20, 21, 22, 23, 24, 25, 26, 27, 28, 29, 30, 31] [] [0, 1, 2, 3, 4, 5, 6, 7, 8, 9, 10, 11, 12, 13, 14, 15, 16, 17, 18, 19, 20, 21, 22, 23, 24, 25, 26, 27, 28, 29, 30, 31] rfl rfl rfl 0 rfl rfl lX4_244 ⟨rfl, rfl, by decide, by decide⟩ rfl hl.1 (Nat.le_of_ble_eq_true rfl) rfl dX4_places_41 (fun H locs hG => ?_)
        cases h
        exact hret _ _ _ _ hG dX4_places_44 rfl
      · rw [if_neg c27] at h
        refine lv_aload_n hx hb dX4_places_30 rfl (lv_at hl 1 rfl) ?_
        refine lv_iload_n hx hb dX4_places_31 rfl (lv_at hl 0 rfl) ?_
        obtain ⟨v32, finding_32, findings_32, e32, h⟩ := bd3_some h
        refine x_vi (rest := []) (ws' := (wX4 cI ad finding_32 asked upper lower r_items r_sizes t_items t_sizes d_items d_sizes st_size st_need st_lifted st_licked st_morning st_tally st_kinds st_places st_lengths st_downs st_covers sl_size sl_need sl_lifted sl_licked sl_morning sl_tally sl_kinds sl_places sl_lengths sl_downs sl_covers as_size as_need as_lifted as_licked as_morning as_tally as_kinds as_places as_lengths as_downs as_covers text place count least inAll inSome scratch findings_32)) hc hG (cc_X4_find ad finding asked upper lower r_items r_sizes t_items t_sizes d_items d_sizes st_size st_need st_lifted st_licked st_morning st_tally st_kinds st_places st_lengths st_downs st_covers sl_size sl_need sl_lifted sl_licked sl_morning sl_tally sl_kinds sl_places sl_lengths sl_downs sl_covers as_size as_need as_lifted as_licked as_morning as_tally as_kinds as_places as_lengths as_downs as_covers text place count least inAll inSome scratch findings v22 v32 finding_32 findings_32 e32) [0, 1, 2, 3, 4, 5, 6, 7, 8, 9, 10, 11, 12, 13, 14, 15, 16, 17, 18, 19, 20, 21, 22, 23, 24, 25, 26, 27, 28, 29, 30, 31] [] [0, 1, 2, 3, 4, 5, 6, 7, 8, 9, 10, 11, 12, 13, 14, 15, 16, 17, 18, 19, 20, 21, 22, 23, 24, 25, 26, 27, 28, 29, 30, 31] rfl rfl rfl 0 rfl rfl lX4_72 ⟨rfl, rfl, by decide, by decide⟩ rfl hl.1 (Nat.le_of_ble_eq_true rfl) rfl dX4_places_32 (fun H locs hG => ?_)
        refine lv_goto (tgt := 44) hx hb dX4_places_35 (by decide) ?_
        cases h
        exact hret _ _ _ _ hG dX4_places_44 rfl
    · rw [if_pos c15] at h
      refine lv_iconst (v := (-1)) hx hb dX4_places_18 (by decide) ?_
      cases h
      exact hret _ _ _ _ hG dX4_places_19 rfl
set_option maxRecDepth 100000 in
set_option maxHeartbeats 4000000 in
theorem cc_X4_fittingKinds {l : Launch} {D : va_G} {cI : ClassId} {tL : Nat} (ad : Nat → Nat) (finding : Int32) (asked : Int32) (upper : Int64) (lower : Int64) (r_items : Nat → Int32) (r_sizes : Nat → Int32) (t_items : Nat → Int32) (t_sizes : Nat → Int32) (d_items : Nat → Int32) (d_sizes : Nat → Int32) (st_size : Int32) (st_need : Int32) (st_lifted : Int32) (st_licked : Int32) (st_morning : Int32) (st_tally : Int32) (st_kinds : Nat → Int32) (st_places : Nat → Int32) (st_lengths : Nat → Int32) (st_downs : Nat → Int32) (st_covers : Nat → Int32) (sl_size : Int32) (sl_need : Int32) (sl_lifted : Int32) (sl_licked : Int32) (sl_morning : Int32) (sl_tally : Int32) (sl_kinds : Nat → Int32) (sl_places : Nat → Int32) (sl_lengths : Nat → Int32) (sl_downs : Nat → Int32) (sl_covers : Nat → Int32) (as_size : Int32) (as_need : Int32) (as_lifted : Int32) (as_licked : Int32) (as_morning : Int32) (as_tally : Int32) (as_kinds : Nat → Int32) (as_places : Nat → Int32) (as_lengths : Nat → Int32) (as_downs : Nat → Int32) (as_covers : Nat → Int32) (text : Int32) (place : Int32) (count : Int32) (least : Int32) (inAll : Int32) (inSome : Int32) (scratch : Nat → Int32) (findings : Nat → Int32) (x1 : Int32) (x2 : Int32) (r' : Int32) (as_size' : Int32) (as_need' : Int32) (as_lifted' : Int32) (as_licked' : Int32) (as_morning' : Int32) (as_tally' : Int32) (as_kinds' : Nat → Int32) (as_places' : Nat → Int32) (as_lengths' : Nat → Int32) (as_downs' : Nat → Int32) (as_covers' : Nat → Int32) (h : fX4_fittingKinds r_items r_sizes sl_size sl_need sl_lifted sl_licked sl_morning sl_tally sl_kinds sl_places sl_lengths sl_downs sl_covers as_size as_need as_lifted as_licked as_morning as_tally as_kinds as_places as_lengths as_downs as_covers x1 x2 = some (r', as_size', as_need', as_lifted', as_licked', as_morning', as_tally', as_kinds', as_places', as_lengths', as_downs', as_covers')) : Ci l D cI tL yX4_fittingKinds cX4_fittingKinds 5 .int rmX4_fittingKinds (wX4 cI ad finding asked upper lower r_items r_sizes t_items t_sizes d_items d_sizes st_size st_need st_lifted st_licked st_morning st_tally st_kinds st_places st_lengths st_downs st_covers sl_size sl_need sl_lifted sl_licked sl_morning sl_tally sl_kinds sl_places sl_lengths sl_downs sl_covers as_size as_need as_lifted as_licked as_morning as_tally as_kinds as_places as_lengths as_downs as_covers text place count least inAll inSome scratch findings) [.ref (ad 0), .int x1, .int x2] r' (wX4 cI ad finding asked upper lower r_items r_sizes t_items t_sizes d_items d_sizes st_size st_need st_lifted st_licked st_morning st_tally st_kinds st_places st_lengths st_downs st_covers sl_size sl_need sl_lifted sl_licked sl_morning sl_tally sl_kinds sl_places sl_lengths sl_downs sl_covers as_size' as_need' as_lifted' as_licked' as_morning' as_tally' as_kinds' as_places' as_lengths' as_downs' as_covers' text place count least inAll inSome scratch findings) := by
  refine Ci_of (own := RX4) (by decide) (Nat.le_of_ble_eq_true rfl) rfl ?_
  intro p e s m below meth c Q A AV hc hret ls hl hG
  obtain ⟨hx, hb, hml, hown, hts, hK, hA, hz⟩ := id hc
  have hl : lv_has ls 5 [(0, .ref (ad 0)), (1, .int x1), (2, .int x2)] := hl
  have hL_5 : ∀ (x1 : Int32) (x2 : Int32) (as_size_o : Int32) (as_need_o : Int32) (as_lifted_o : Int32) (as_licked_o : Int32) (as_morning_o : Int32) (as_tally_o : Int32) (as_kinds_o : Nat → Int32) (as_places_o : Nat → Int32) (as_lengths_o : Nat → Int32) (as_downs_o : Nat → Int32) (as_covers_o : Nat → Int32) (x3_o : Int32), (∀ (ls : Array Slot) (H : Heap) (locs : List Loc), lv_has ls 5 [(0, .ref (ad 0)), (3, .int x3_o)] → St D A s (wX4 cI ad finding asked upper lower r_items r_sizes t_items t_sizes d_items d_sizes st_size st_need st_lifted st_licked st_morning st_tally st_kinds st_places st_lengths st_downs st_covers sl_size sl_need sl_lifted sl_licked sl_morning sl_tally sl_kinds sl_places sl_lengths sl_downs sl_covers as_size_o as_need_o as_lifted_o as_licked_o as_morning_o as_tally_o as_kinds_o as_places_o as_lengths_o as_downs_o as_covers_o text place count least inAll inSome scratch findings) H locs → W p l e rmX4_fittingKinds s m AV below meth c H locs 0 0 Q (F0 m 54 ls [])) → ∀ (n : Nat) (as_size : Int32) (as_need : Int32) (as_lifted : Int32) (as_licked : Int32) (as_morning : Int32) (as_tally : Int32) (as_kinds : Nat → Int32) (as_places : Nat → Int32) (as_lengths : Nat → Int32) (as_downs : Nat → Int32) (as_covers : Nat → Int32) (x3 : Int32) (x4 : Int32), fX4_fittingKinds_L5 r_items r_sizes sl_size sl_need sl_lifted sl_licked sl_morning sl_tally sl_kinds sl_places sl_lengths sl_downs sl_covers x1 x2 n as_size as_need as_lifted as_licked as_morning as_tally as_kinds as_places as_lengths as_downs as_covers x3 x4 = some (as_size_o, as_need_o, as_lifted_o, as_licked_o, as_morning_o, as_tally_o, as_kinds_o, as_places_o, as_lengths_o, as_downs_o, as_covers_o, x3_o) → ∀ (ls : Array Slot) (H : Heap) (locs : List Loc), lv_has ls 5 [(0, .ref (ad 0)), (1, .int x1), (2, .int x2), (3, .int x3), (4, .int x4)] → St D A s (wX4 cI ad finding asked upper lower r_items r_sizes t_items t_sizes d_items d_sizes st_size st_need st_lifted st_licked st_morning st_tally st_kinds st_places st_lengths st_downs st_covers sl_size sl_need sl_lifted sl_licked sl_morning sl_tally sl_kinds sl_places sl_lengths sl_downs sl_covers as_size as_need as_lifted as_licked as_morning as_tally as_kinds as_places as_lengths as_downs as_covers text place count least inAll inSome scratch findings) H locs → W p l e rmX4_fittingKinds s m AV below meth c H locs 0 0 Q (F0 m 5 ls []) := by
    intro x1 x2 as_size_o as_need_o as_lifted_o as_licked_o as_morning_o as_tally_o as_kinds_o as_places_o as_lengths_o as_downs_o as_covers_o x3_o KE n
    induction n with
    | zero =>
      intro as_size as_need as_lifted as_licked as_morning as_tally as_kinds as_places as_lengths as_downs as_covers x3 x4 h
      exact nomatch (show none = some _ from h)
    | succ n ih =>
      intro as_size as_need as_lifted as_licked as_morning as_tally as_kinds as_places as_lengths as_downs as_covers x3 x4 h ls H locs hl hG
      have h : fX4_fittingKinds_B5 r_items r_sizes sl_size sl_need sl_lifted sl_licked sl_morning sl_tally sl_kinds sl_places sl_lengths sl_downs sl_covers x1 x2 (fX4_fittingKinds_L5 r_items r_sizes sl_size sl_need sl_lifted sl_licked sl_morning sl_tally sl_kinds sl_places sl_lengths sl_downs sl_covers x1 x2 n) as_size as_need as_lifted as_licked as_morning as_tally as_kinds as_places as_lengths as_downs as_covers x3 x4 = some (as_size_o, as_need_o, as_lifted_o, as_licked_o, as_morning_o, as_tally_o, as_kinds_o, as_places_o, as_lengths_o, as_downs_o, as_covers_o, x3_o) := h
      have hj_48 : ∀ (as_size : Int32) (as_need : Int32) (as_lifted : Int32) (as_licked : Int32) (as_morning : Int32) (as_tally : Int32) (as_kinds : Nat → Int32) (as_places : Nat → Int32) (as_lengths : Nat → Int32) (as_downs : Nat → Int32) (as_covers : Nat → Int32) (x3 : Int32) (x4 : Int32) , fX4_fittingKinds_j48 (fX4_fittingKinds_L5 r_items r_sizes sl_size sl_need sl_lifted sl_licked sl_morning sl_tally sl_kinds sl_places sl_lengths sl_downs sl_covers x1 x2 n) r_items r_sizes sl_size sl_need sl_lifted sl_licked sl_morning sl_tally sl_kinds sl_places sl_lengths sl_downs sl_covers as_size as_need as_lifted as_licked as_morning as_tally as_kinds as_places as_lengths as_downs as_covers x1 x2 x3 x4 = some (as_size_o, as_need_o, as_lifted_o, as_licked_o, as_morning_o, as_tally_o, as_kinds_o, as_places_o, as_lengths_o, as_downs_o, as_covers_o, x3_o) → ∀ (ls : Array Slot) (H : Heap) (locs : List Loc), lv_has ls 5 [(0, .ref (ad 0)), (1, .int x1), (2, .int x2), (3, .int x3), (4, .int x4)] → St D A s (wX4 cI ad finding asked upper lower r_items r_sizes t_items t_sizes d_items d_sizes st_size st_need st_lifted st_licked st_morning st_tally st_kinds st_places st_lengths st_downs st_covers sl_size sl_need sl_lifted sl_licked sl_morning sl_tally sl_kinds sl_places sl_lengths sl_downs sl_covers as_size as_need as_lifted as_licked as_morning as_tally as_kinds as_places as_lengths as_downs as_covers text place count least inAll inSome scratch findings) H locs → W p l e rmX4_fittingKinds s m AV below meth c H locs 0 0 Q (F0 m 48 ls []) := by
        intro as_size as_need as_lifted as_licked as_morning as_tally as_kinds as_places as_lengths as_downs as_covers x3 x4 h ls H locs hl hG
        unfold fX4_fittingKinds_j48 at h
        refine lv_iinc (v := (x4 + 1)) (lv' := [(4, .int (x4 + 1)), (0, .ref (ad 0)), (1, .int x1), (2, .int x2), (3, .int x3)]) hx hb dX4_fittingKinds_48 hl (k := 4) rfl rfl (by decide) rfl (fun ls hl => ?_)
        refine lv_goto (tgt := 5) hx hb dX4_fittingKinds_51 (by decide) ?_
        exact ih _ _ _ _ _ _ _ _ _ _ _ _ _ h _ _ _ (lv_sub hl [1, 2, 3, 4, 0] rfl) hG
      unfold fX4_fittingKinds_B5 at h
      refine lv_iload hx hb dX4_fittingKinds_5 (lv_at hl 4 rfl) ?_
      refine lv_bipush (v := 6) hx hb dX4_fittingKinds_7 (by decide) ?_
      refine lv_icmp_ge (tgt := 54) hx hb dX4_fittingKinds_9 (by decide) (fun c9 => ?_) (fun c9 => ?_)
      · rw [if_pos c9] at h
        cases h
        exact KE _ _ _ (lv_sub hl [0, 3] rfl) hG
      · rw [if_neg c9] at h
        refine lv_aload_n hx hb dX4_fittingKinds_12 rfl (lv_at hl 0 rfl) ?_
        refine x_get hc hG 0 rfl iX4 5 lX4_38 rfl dX4_fittingKinds_13 ?_
        refine lv_aload_n hx hb dX4_fittingKinds_16 rfl (lv_at hl 0 rfl) ?_
        refine x_get hc hG 0 rfl iX4 4 lX4_35 rfl dX4_fittingKinds_17 ?_
        obtain ⟨as_size_20, as_need_20, as_lifted_20, as_licked_20, as_morning_20, as_tally_20, as_kinds_20, as_places_20, as_lengths_20, as_downs_20, as_covers_20, e20, h⟩ := bd11_some h
        refine x_vv (rest := []) (ws' := (wX4 cI ad finding asked upper lower r_items r_sizes t_items t_sizes d_items d_sizes st_size st_need st_lifted st_licked st_morning st_tally st_kinds st_places st_lengths st_downs st_covers sl_size sl_need sl_lifted sl_licked sl_morning sl_tally sl_kinds sl_places sl_lengths sl_downs sl_covers as_size_20 as_need_20 as_lifted_20 as_licked_20 as_morning_20 as_tally_20 as_kinds_20 as_places_20 as_lengths_20 as_downs_20 as_covers_20 text place count least inAll inSome scratch findings)) hc hG (cc_X3_take (fun k => match k with | 0 => ad 22 | 1 => ad 23 | 2 => ad 24 | 3 => ad 25 | 4 => ad 26 | 5 => ad 27 | 6 => ad 16 | 7 => ad 17 | 8 => ad 18 | 9 => ad 19 | 10 => ad 20 | _ => ad 21) as_size as_need as_lifted as_licked as_morning as_tally as_kinds as_places as_lengths as_downs as_covers sl_size sl_need sl_lifted sl_licked sl_morning sl_tally sl_kinds sl_places sl_lengths sl_downs sl_covers as_size_20 as_need_20 as_lifted_20 as_licked_20 as_morning_20 as_tally_20 as_kinds_20 as_places_20 as_lengths_20 as_downs_20 as_covers_20 e20) [22, 23, 24, 25, 26, 27, 16, 17, 18, 19, 20, 21] [0, 1, 2, 3, 4, 5, 6, 7, 8, 9, 10, 11, 12, 13, 14, 15, 28, 29, 30, 31] [0, 1, 2, 3, 4, 5, 6, 7, 8, 9, 10, 11, 12, 13, 14, 15, 26, 27, 28, 29, 30, 31, 20, 21, 22, 23, 24, 25, 16, 17, 18, 19] rfl rfl rfl 22 rfl rfl lX4_114 ⟨rfl, rfl, by decide, by decide⟩ rfl hl.1 (Nat.le_of_ble_eq_true rfl) rfl dX4_fittingKinds_20 (fun H locs hG => ?_)
        refine lv_aload_n hx hb dX4_fittingKinds_23 rfl (lv_at hl 0 rfl) ?_
        refine x_get hc hG 0 rfl iX4 5 lX4_38 rfl dX4_fittingKinds_24 ?_
        refine lv_iload_n hx hb dX4_fittingKinds_27 rfl (lv_at hl 1 rfl) ?_
        refine lv_iload hx hb dX4_fittingKinds_28 (lv_at hl 4 rfl) ?_
        obtain ⟨as_kinds_30, as_covers_30, e30, h⟩ := bd2_some h
        refine x_vv (rest := []) (ws' := (wX4 cI ad finding asked upper lower r_items r_sizes t_items t_sizes d_items d_sizes st_size st_need st_lifted st_licked st_morning st_tally st_kinds st_places st_lengths st_downs st_covers sl_size sl_need sl_lifted sl_licked sl_morning sl_tally sl_kinds sl_places sl_lengths sl_downs sl_covers as_size_20 as_need_20 as_lifted_20 as_licked_20 as_morning_20 as_tally_20 as_kinds_30 as_places_20 as_lengths_20 as_downs_20 as_covers_30 text place count least inAll inSome scratch findings)) hc hG (cc_X3_setKind (fun k => ad (22 + k)) as_size_20 as_need_20 as_lifted_20 as_licked_20 as_morning_20 as_tally_20 as_kinds_20 as_places_20 as_lengths_20 as_downs_20 as_covers_20 x1 x4 as_kinds_30 as_covers_30 e30) [22, 23, 24, 25, 26, 27] [0, 1, 2, 3, 4, 5, 6, 7, 8, 9, 10, 11, 12, 13, 14, 15, 16, 17, 18, 19, 20, 21, 28, 29, 30, 31] [0, 1, 2, 3, 4, 5, 6, 7, 8, 9, 10, 11, 12, 13, 14, 15, 16, 17, 18, 19, 20, 21, 26, 27, 28, 29, 30, 31, 22, 23, 24, 25] rfl rfl rfl 22 rfl rfl lX4_342 ⟨rfl, rfl, by decide, by decide⟩ rfl hl.1 (Nat.le_of_ble_eq_true rfl) rfl dX4_fittingKinds_30 (fun H locs hG => ?_)
        refine lv_aload_n hx hb dX4_fittingKinds_33 rfl (lv_at hl 0 rfl) ?_
        refine lv_iload_n hx hb dX4_fittingKinds_34 rfl (lv_at hl 2 rfl) ?_
        obtain ⟨v35, as_morning_35, as_tally_35, as_places_35, as_downs_35, as_covers_35, e35, h⟩ := bd6_some h
        refine x_vi (rest := []) (ws' := (wX4 cI ad finding asked upper lower r_items r_sizes t_items t_sizes d_items d_sizes st_size st_need st_lifted st_licked st_morning st_tally st_kinds st_places st_lengths st_downs st_covers sl_size sl_need sl_lifted sl_licked sl_morning sl_tally sl_kinds sl_places sl_lengths sl_downs sl_covers as_size_20 as_need_20 as_lifted_20 as_licked_20 as_morning_35 as_tally_35 as_kinds_30 as_places_35 as_lengths_20 as_downs_35 as_covers_35 text place count least inAll inSome scratch findings)) hc hG (cc_X4_asideFits ad finding asked upper lower r_items r_sizes t_items t_sizes d_items d_sizes st_size st_need st_lifted st_licked st_morning st_tally st_kinds st_places st_lengths st_downs st_covers sl_size sl_need sl_lifted sl_licked sl_morning sl_tally sl_kinds sl_places sl_lengths sl_downs sl_covers as_size_20 as_need_20 as_lifted_20 as_licked_20 as_morning_20 as_tally_20 as_kinds_30 as_places_20 as_lengths_20 as_downs_20 as_covers_30 text place count least inAll inSome scratch findings x2 v35 as_morning_35 as_tally_35 as_places_35 as_downs_35 as_covers_35 e35) [0, 1, 2, 3, 4, 5, 6, 7, 8, 9, 10, 11, 12, 13, 14, 15, 16, 17, 18, 19, 20, 21, 22, 23, 24, 25, 26, 27, 28, 29, 30, 31] [] [0, 1, 2, 3, 4, 5, 6, 7, 8, 9, 10, 11, 12, 13, 14, 15, 16, 17, 18, 19, 20, 21, 22, 23, 24, 25, 26, 27, 28, 29, 30, 31] rfl rfl rfl 0 rfl rfl lX4_339 ⟨rfl, rfl, by decide, by decide⟩ rfl hl.1 (Nat.le_of_ble_eq_true rfl) rfl dX4_fittingKinds_35 (fun H locs hG => ?_)
        refine lv_if_eq (tgt := 48) hx hb dX4_fittingKinds_38 (by decide) (fun c38 => ?_) (fun c38 => ?_)
        · rw [if_pos c38] at h
          exact hj_48 _ _ _ _ _ _ _ _ _ _ _ _ _ h _ _ _ (lv_sub hl [0, 1, 2, 3, 4] rfl) hG
        · rw [if_neg c38] at h
          refine lv_iload_n hx hb dX4_fittingKinds_41 rfl (lv_at hl 3 rfl) ?_
          refine lv_iconst (v := 1) hx hb dX4_fittingKinds_42 (by decide) ?_
          refine lv_iload hx hb dX4_fittingKinds_43 (lv_at hl 4 rfl) ?_
          refine lv_ishl hx hb dX4_fittingKinds_45 ?_
          refine lv_ior hx hb dX4_fittingKinds_46 ?_
          refine lv_istore_n (lv' := [(3, .int (x3 ||| ((1 : Int32) <<< (x4 &&& 31)))), (0, .ref (ad 0)), (1, .int x1), (2, .int x2), (4, .int x4)]) hx hb dX4_fittingKinds_47 rfl hl (by decide) rfl (fun ls hl => ?_)
          exact hj_48 _ _ _ _ _ _ _ _ _ _ _ _ _ h _ _ _ (lv_sub hl [1, 2, 3, 0, 4] rfl) hG
  unfold fX4_fittingKinds at h
  refine lv_iconst (v := 0) hx hb dX4_fittingKinds_0 (by decide) ?_
  refine lv_istore_n (lv' := [(3, .int 0), (0, .ref (ad 0)), (1, .int x1), (2, .int x2)]) hx hb dX4_fittingKinds_1 rfl hl (by decide) rfl (fun ls hl => ?_)
  refine lv_iconst (v := 0) hx hb dX4_fittingKinds_2 (by decide) ?_
  refine lv_istore (lv' := [(4, .int 0), (3, .int 0), (0, .ref (ad 0)), (1, .int x1), (2, .int x2)]) hx hb dX4_fittingKinds_3 hl (by decide) rfl (fun ls hl => ?_)
  obtain ⟨as_size_L5, as_need_L5, as_lifted_L5, as_licked_L5, as_morning_L5, as_tally_L5, as_kinds_L5, as_places_L5, as_lengths_L5, as_downs_L5, as_covers_L5, x3_L5, e5, h⟩ := bd12_some h
  refine hL_5 _ _ _ _ _ _ _ _ _ _ _ _ _ _ (fun ls H locs hl hG => ?_) _ _ _ _ _ _ _ _ _ _ _ _ _ _ e5 _ _ _ (lv_sub hl [2, 3, 4, 1, 0] rfl) hG
  refine lv_iload_n hx hb dX4_fittingKinds_54 rfl (lv_at hl 1 rfl) ?_
  cases h
  exact hret _ _ _ _ hG dX4_fittingKinds_55 rfl
set_option maxRecDepth 100000 in
set_option maxHeartbeats 4000000 in
theorem cc_X4_kinds {l : Launch} {D : va_G} {cI : ClassId} {tL : Nat} (ad : Nat → Nat) (finding : Int32) (asked : Int32) (upper : Int64) (lower : Int64) (r_items : Nat → Int32) (r_sizes : Nat → Int32) (t_items : Nat → Int32) (t_sizes : Nat → Int32) (d_items : Nat → Int32) (d_sizes : Nat → Int32) (st_size : Int32) (st_need : Int32) (st_lifted : Int32) (st_licked : Int32) (st_morning : Int32) (st_tally : Int32) (st_kinds : Nat → Int32) (st_places : Nat → Int32) (st_lengths : Nat → Int32) (st_downs : Nat → Int32) (st_covers : Nat → Int32) (sl_size : Int32) (sl_need : Int32) (sl_lifted : Int32) (sl_licked : Int32) (sl_morning : Int32) (sl_tally : Int32) (sl_kinds : Nat → Int32) (sl_places : Nat → Int32) (sl_lengths : Nat → Int32) (sl_downs : Nat → Int32) (sl_covers : Nat → Int32) (as_size : Int32) (as_need : Int32) (as_lifted : Int32) (as_licked : Int32) (as_morning : Int32) (as_tally : Int32) (as_kinds : Nat → Int32) (as_places : Nat → Int32) (as_lengths : Nat → Int32) (as_downs : Nat → Int32) (as_covers : Nat → Int32) (text : Int32) (place : Int32) (count : Int32) (least : Int32) (inAll : Int32) (inSome : Int32) (scratch : Nat → Int32) (findings : Nat → Int32) (x1 : Int32) (x2 : Int32) (r' : Int32) (finding' : Int32) (as_size' : Int32) (as_need' : Int32) (as_lifted' : Int32) (as_licked' : Int32) (as_morning' : Int32) (as_tally' : Int32) (as_kinds' : Nat → Int32) (as_places' : Nat → Int32) (as_lengths' : Nat → Int32) (as_downs' : Nat → Int32) (as_covers' : Nat → Int32) (findings' : Nat → Int32) (h : fX4_kinds finding r_items r_sizes sl_size sl_need sl_lifted sl_licked sl_morning sl_tally sl_kinds sl_places sl_lengths sl_downs sl_covers as_size as_need as_lifted as_licked as_morning as_tally as_kinds as_places as_lengths as_downs as_covers findings x1 x2 = some (r', finding', as_size', as_need', as_lifted', as_licked', as_morning', as_tally', as_kinds', as_places', as_lengths', as_downs', as_covers', findings')) : Ci l D cI tL yX4_kinds cX4_kinds 4 .int rmX4_kinds (wX4 cI ad finding asked upper lower r_items r_sizes t_items t_sizes d_items d_sizes st_size st_need st_lifted st_licked st_morning st_tally st_kinds st_places st_lengths st_downs st_covers sl_size sl_need sl_lifted sl_licked sl_morning sl_tally sl_kinds sl_places sl_lengths sl_downs sl_covers as_size as_need as_lifted as_licked as_morning as_tally as_kinds as_places as_lengths as_downs as_covers text place count least inAll inSome scratch findings) [.ref (ad 0), .int x1, .int x2] r' (wX4 cI ad finding' asked upper lower r_items r_sizes t_items t_sizes d_items d_sizes st_size st_need st_lifted st_licked st_morning st_tally st_kinds st_places st_lengths st_downs st_covers sl_size sl_need sl_lifted sl_licked sl_morning sl_tally sl_kinds sl_places sl_lengths sl_downs sl_covers as_size' as_need' as_lifted' as_licked' as_morning' as_tally' as_kinds' as_places' as_lengths' as_downs' as_covers' text place count least inAll inSome scratch findings') := by
  refine Ci_of (own := RX4) (by decide) (Nat.le_of_ble_eq_true rfl) rfl ?_
  intro p e s m below meth c Q A AV hc hret ls hl hG
  obtain ⟨hx, hb, hml, hown, hts, hK, hA, hz⟩ := id hc
  have hl : lv_has ls 4 [(0, .ref (ad 0)), (1, .int x1), (2, .int x2)] := hl
  unfold fX4_kinds at h
  refine lv_aload_n hx hb dX4_kinds_0 rfl (lv_at hl 0 rfl) ?_
  refine x_get hc hG 0 rfl iX4 4 lX4_35 rfl dX4_kinds_1 ?_
  refine lv_iload_n hx hb dX4_kinds_4 rfl (lv_at hl 1 rfl) ?_
  obtain ⟨v5, e5, h⟩ := bd1_some h
  refine x_vi (rest := []) (ws' := (wX4 cI ad finding asked upper lower r_items r_sizes t_items t_sizes d_items d_sizes st_size st_need st_lifted st_licked st_morning st_tally st_kinds st_places st_lengths st_downs st_covers sl_size sl_need sl_lifted sl_licked sl_morning sl_tally sl_kinds sl_places sl_lengths sl_downs sl_covers as_size as_need as_lifted as_licked as_morning as_tally as_kinds as_places as_lengths as_downs as_covers text place count least inAll inSome scratch findings)) hc hG (cc_X3_has (fun k => ad (16 + k)) sl_size sl_need sl_lifted sl_licked sl_morning sl_tally sl_kinds sl_places sl_lengths sl_downs sl_covers x1 v5 e5) [16, 17, 18, 19, 20, 21] [0, 1, 2, 3, 4, 5, 6, 7, 8, 9, 10, 11, 12, 13, 14, 15, 22, 23, 24, 25, 26, 27, 28, 29, 30, 31] [0, 1, 2, 3, 4, 5, 6, 7, 8, 9, 10, 11, 12, 13, 14, 15, 26, 27, 28, 29, 30, 31, 16, 17, 18, 19, 20, 21, 22, 23, 24, 25] rfl rfl rfl 16 rfl rfl lX4_122 ⟨rfl, rfl, by decide, by decide⟩ rfl hl.1 (Nat.le_of_ble_eq_true rfl) rfl dX4_kinds_5 (fun H locs hG => ?_)
  refine lv_if_eq (tgt := 18) hx hb dX4_kinds_8 (by decide) (fun c8 => ?_) (fun c8 => ?_)
  · rw [if_pos c8] at h
    refine lv_iconst (v := (-1)) hx hb dX4_kinds_18 (by decide) ?_
    cases h
    exact hret _ _ _ _ hG dX4_kinds_19 rfl
  · rw [if_neg c8] at h
    refine lv_iload_n hx hb dX4_kinds_11 rfl (lv_at hl 2 rfl) ?_
    obtain ⟨v12, e12, h⟩ := bd1_some h
    refine x_si0 (rest := []) hc hG (cc_X4_isRow x2 v12 e12) lX4_68 ⟨rfl, rfl, by decide, by decide⟩ rfl hl.1 (Nat.le_of_ble_eq_true rfl) rfl dX4_kinds_12 (fun H locs hG => ?_)
    refine lv_if_ne (tgt := 20) hx hb dX4_kinds_15 (by decide) (fun c15 => ?_) (fun c15 => ?_)
    · rw [if_neg c15] at h
      refine lv_aload_n hx hb dX4_kinds_20 rfl (lv_at hl 0 rfl) ?_
      refine lv_iload_n hx hb dX4_kinds_21 rfl (lv_at hl 2 rfl) ?_
      obtain ⟨v22, e22, h⟩ := bd1_some h
      refine x_vi (rest := []) (ws' := (wX4 cI ad finding asked upper lower r_items r_sizes t_items t_sizes d_items d_sizes st_size st_need st_lifted st_licked st_morning st_tally st_kinds st_places st_lengths st_downs st_covers sl_size sl_need sl_lifted sl_licked sl_morning sl_tally sl_kinds sl_places sl_lengths sl_downs sl_covers as_size as_need as_lifted as_licked as_morning as_tally as_kinds as_places as_lengths as_downs as_covers text place count least inAll inSome scratch findings)) hc hG (cc_X4_flawOfSeen ad finding asked upper lower r_items r_sizes t_items t_sizes d_items d_sizes st_size st_need st_lifted st_licked st_morning st_tally st_kinds st_places st_lengths st_downs st_covers sl_size sl_need sl_lifted sl_licked sl_morning sl_tally sl_kinds sl_places sl_lengths sl_downs sl_covers as_size as_need as_lifted as_licked as_morning as_tally as_kinds as_places as_lengths as_downs as_covers text place count least inAll inSome scratch findings x2 v22 e22) [0, 1, 2, 3, 4, 5, 6, 7, 8, 9, 10, 11, 12, 13, 14, 15, 16, 17, 18, 19, 20, 21, 22, 23, 24, 25, 26, 27, 28, 29, 30, 31] [] [0, 1, 2, 3, 4, 5, 6, 7, 8, 9, 10, 11, 12, 13, 14, 15, 16, 17, 18, 19, 20, 21, 22, 23, 24, 25, 26, 27, 28, 29, 30, 31] rfl rfl rfl 0 rfl rfl lX4_241 ⟨rfl, rfl, by decide, by decide⟩ rfl hl.1 (Nat.le_of_ble_eq_true rfl) rfl dX4_kinds_22 (fun H locs hG => ?_)
      refine lv_istore_n (lv' := [(3, .int v22), (0, .ref (ad 0)), (1, .int x1), (2, .int x2)]) hx hb dX4_kinds_25 rfl hl (by decide) rfl (fun ls hl => ?_)
      refine lv_iload_n hx hb dX4_kinds_26 rfl (lv_at hl 0 rfl) ?_
      refine lv_if_eq (tgt := 38) hx hb dX4_kinds_27 (by decide) (fun c27 => ?_) (fun c27 => ?_)
      · rw [if_pos c27] at h
        refine lv_aload_n hx hb dX4_kinds_38 rfl (lv_at hl 1 rfl) ?_
        refine lv_iload_n hx hb dX4_kinds_39 rfl (lv_at hl 2 rfl) ?_
        refine lv_iload_n hx hb dX4_kinds_40 rfl (lv_at hl 3 rfl) ?_
        obtain ⟨v41, as_size_41, as_need_41, as_lifted_41, as_licked_41, as_morning_41, as_tally_41, as_kinds_41, as_places_41, as_lengths_41, as_downs_41, as_covers_41, e41, h⟩ := bd12_some h
        refine x_vi (rest := []) (ws' := (wX4 cI ad finding asked upper lower r_items r_sizes t_items t_sizes d_items d_sizes st_size st_need st_lifted st_licked st_morning st_tally st_kinds st_places st_lengths st_downs st_covers sl_size sl_need sl_lifted sl_licked sl_morning sl_tally sl_kinds sl_places sl_lengths sl_downs sl_covers as_size_41 as_need_41 as_lifted_41 as_licked_41 as_morning_41 as_tally_41 as_kinds_41 as_places_41 as_lengths_41 as_downs_41 as_covers_41 text place count least inAll inSome scratch findings)) hc hG (cc_X4_fittingKinds ad finding asked upper lower r_items r_sizes t_items t_sizes d_items d_sizes st_size st_need st_lifted st_licked st_morning st_tally st_kinds st_places st_lengths st_downs st_covers sl_size sl_need sl_lifted sl_licked sl_morning sl_tally sl_kinds sl_places sl_lengths sl_downs sl_covers as_size as_need as_lifted as_licked as_morning as_tally as_kinds as_places as_lengths as_downs as_covers text place count least inAll inSome scratch findings x1 x2 v41 as_size_41 as_need_41 as_lifted_41 as_licked_41 as_morning_41 as_tally_41 as_kinds_41 as_places_41 as_lengths_41 as_downs_41 as_covers_41 e41) [0, 1, 2, 3, 4, 5, 6, 7, 8, 9, 10, 11, 12, 13, 14, 15, 16, 17, 18, 19, 20, 21, 22, 23, 24, 25, 26, 27, 28, 29, 30, 31] [] [0, 1, 2, 3, 4, 5, 6, 7, 8, 9, 10, 11, 12, 13, 14, 15, 16, 17, 18, 19, 20, 21, 22, 23, 24, 25, 26, 27, 28, 29, 30, 31] rfl rfl rfl 0 rfl rfl lX4_247 ⟨rfl, rfl, by decide, by decide⟩ rfl hl.1 (Nat.le_of_ble_eq_true rfl) rfl dX4_kinds_41 (fun H locs hG => ?_)
        cases h
        exact hret _ _ _ _ hG dX4_kinds_44 rfl
      · rw [if_neg c27] at h
        refine lv_aload_n hx hb dX4_kinds_30 rfl (lv_at hl 1 rfl) ?_
        refine lv_iload_n hx hb dX4_kinds_31 rfl (lv_at hl 0 rfl) ?_
        obtain ⟨v32, finding_32, findings_32, e32, h⟩ := bd3_some h
        refine x_vi (rest := []) (ws' := (wX4 cI ad finding_32 asked upper lower r_items r_sizes t_items t_sizes d_items d_sizes st_size st_need st_lifted st_licked st_morning st_tally st_kinds st_places st_lengths st_downs st_covers sl_size sl_need sl_lifted sl_licked sl_morning sl_tally sl_kinds sl_places sl_lengths sl_downs sl_covers as_size as_need as_lifted as_licked as_morning as_tally as_kinds as_places as_lengths as_downs as_covers text place count least inAll inSome scratch findings_32)) hc hG (cc_X4_find ad finding asked upper lower r_items r_sizes t_items t_sizes d_items d_sizes st_size st_need st_lifted st_licked st_morning st_tally st_kinds st_places st_lengths st_downs st_covers sl_size sl_need sl_lifted sl_licked sl_morning sl_tally sl_kinds sl_places sl_lengths sl_downs sl_covers as_size as_need as_lifted as_licked as_morning as_tally as_kinds as_places as_lengths as_downs as_covers text place count least inAll inSome scratch findings v22 v32 finding_32 findings_32 e32) [0, 1, 2, 3, 4, 5, 6, 7, 8, 9, 10, 11, 12, 13, 14, 15, 16, 17, 18, 19, 20, 21, 22, 23, 24, 25, 26, 27, 28, 29, 30, 31] [] [0, 1, 2, 3, 4, 5, 6, 7, 8, 9, 10, 11, 12, 13, 14, 15, 16, 17, 18, 19, 20, 21, 22, 23, 24, 25, 26, 27, 28, 29, 30, 31] rfl rfl rfl 0 rfl rfl lX4_72 ⟨rfl, rfl, by decide, by decide⟩ rfl hl.1 (Nat.le_of_ble_eq_true rfl) rfl dX4_kinds_32 (fun H locs hG => ?_)
        refine lv_goto (tgt := 44) hx hb dX4_kinds_35 (by decide) ?_
        cases h
        exact hret _ _ _ _ hG dX4_kinds_44 rfl
    · rw [if_pos c15] at h
      refine lv_iconst (v := (-1)) hx hb dX4_kinds_18 (by decide) ?_
      cases h
      exact hret _ _ _ _ hG dX4_kinds_19 rfl
set_option maxRecDepth 100000 in
set_option maxHeartbeats 4000000 in
theorem cc_X4_lineToLookAt {l : Launch} {D : va_G} {cI : ClassId} {tL : Nat} (ad : Nat → Nat) (finding : Int32) (asked : Int32) (upper : Int64) (lower : Int64) (r_items : Nat → Int32) (r_sizes : Nat → Int32) (t_items : Nat → Int32) (t_sizes : Nat → Int32) (d_items : Nat → Int32) (d_sizes : Nat → Int32) (st_size : Int32) (st_need : Int32) (st_lifted : Int32) (st_licked : Int32) (st_morning : Int32) (st_tally : Int32) (st_kinds : Nat → Int32) (st_places : Nat → Int32) (st_lengths : Nat → Int32) (st_downs : Nat → Int32) (st_covers : Nat → Int32) (sl_size : Int32) (sl_need : Int32) (sl_lifted : Int32) (sl_licked : Int32) (sl_morning : Int32) (sl_tally : Int32) (sl_kinds : Nat → Int32) (sl_places : Nat → Int32) (sl_lengths : Nat → Int32) (sl_downs : Nat → Int32) (sl_covers : Nat → Int32) (as_size : Int32) (as_need : Int32) (as_lifted : Int32) (as_licked : Int32) (as_morning : Int32) (as_tally : Int32) (as_kinds : Nat → Int32) (as_places : Nat → Int32) (as_lengths : Nat → Int32) (as_downs : Nat → Int32) (as_covers : Nat → Int32) (text : Int32) (place : Int32) (count : Int32) (least : Int32) (inAll : Int32) (inSome : Int32) (scratch : Nat → Int32) (findings : Nat → Int32) (x1 : Int32) (x2 : Int32) (x3 : Int32) (r' : Int32) (asked' : Int32) (as_size' : Int32) (as_need' : Int32) (as_lifted' : Int32) (as_licked' : Int32) (as_morning' : Int32) (as_tally' : Int32) (as_kinds' : Nat → Int32) (as_places' : Nat → Int32) (as_lengths' : Nat → Int32) (as_downs' : Nat → Int32) (as_covers' : Nat → Int32) (scratch' : Nat → Int32) (h : fX4_lineToLookAt sl_size sl_need sl_lifted sl_licked sl_morning sl_tally sl_kinds sl_places sl_lengths sl_downs sl_covers as_size as_need as_lifted as_licked as_morning as_tally as_kinds as_places as_lengths as_downs as_covers scratch x1 x2 x3 = some (r', asked', as_size', as_need', as_lifted', as_licked', as_morning', as_tally', as_kinds', as_places', as_lengths', as_downs', as_covers', scratch')) : Ci l D cI tL yX4_lineToLookAt cX4_lineToLookAt 10 .int rmX4_lineToLookAt (wX4 cI ad finding asked upper lower r_items r_sizes t_items t_sizes d_items d_sizes st_size st_need st_lifted st_licked st_morning st_tally st_kinds st_places st_lengths st_downs st_covers sl_size sl_need sl_lifted sl_licked sl_morning sl_tally sl_kinds sl_places sl_lengths sl_downs sl_covers as_size as_need as_lifted as_licked as_morning as_tally as_kinds as_places as_lengths as_downs as_covers text place count least inAll inSome scratch findings) [.ref (ad 0), .int x1, .int x2, .int x3] r' (wX4 cI ad finding asked' upper lower r_items r_sizes t_items t_sizes d_items d_sizes st_size st_need st_lifted st_licked st_morning st_tally st_kinds st_places st_lengths st_downs st_covers sl_size sl_need sl_lifted sl_licked sl_morning sl_tally sl_kinds sl_places sl_lengths sl_downs sl_covers as_size' as_need' as_lifted' as_licked' as_morning' as_tally' as_kinds' as_places' as_lengths' as_downs' as_covers' text place count least inAll inSome scratch' findings) := by
  refine Ci_of (own := RX4) (by decide) (Nat.le_of_ble_eq_true rfl) rfl ?_
  intro p e s m below meth c Q A AV hc hret ls hl hG
  obtain ⟨hx, hb, hml, hown, hts, hK, hA, hz⟩ := id hc
  have hl : lv_has ls 10 [(0, .ref (ad 0)), (1, .int x1), (2, .int x2), (3, .int x3)] := hl
  have hL_98 : ∀ (scratch : Nat → Int32) (x2 : Int32) (x7 : Int32) (asked : Int32) (as_size : Int32) (as_need : Int32) (as_lifted : Int32) (as_licked : Int32) (as_morning : Int32) (as_tally : Int32) (as_kinds : Nat → Int32) (as_places : Nat → Int32) (as_lengths : Nat → Int32) (as_downs : Nat → Int32) (as_covers : Nat → Int32) (x4 : Int32) (x5 : Int32) (x6 : Int32) (x8_o : Int32), (∀ (ls : Array Slot) (H : Heap) (locs : List Loc), lv_has ls 10 [(0, .ref (ad 0)), (2, .int x2), (4, .int x4), (5, .int x5), (6, .int x6), (7, .int x7), (8, .int x8_o)] → St D A s (wX4 cI ad finding asked upper lower r_items r_sizes t_items t_sizes d_items d_sizes st_size st_need st_lifted st_licked st_morning st_tally st_kinds st_places st_lengths st_downs st_covers sl_size sl_need sl_lifted sl_licked sl_morning sl_tally sl_kinds sl_places sl_lengths sl_downs sl_covers as_size as_need as_lifted as_licked as_morning as_tally as_kinds as_places as_lengths as_downs as_covers text place count least inAll inSome scratch findings) H locs → W p l e rmX4_lineToLookAt s m AV below meth c H locs 0 0 Q (F0 m 135 ls [])) → ∀ (n : Nat) (x8 : Int32) (x9 : Int32), fX4_lineToLookAt_L98 scratch x2 x7 n x8 x9 = some x8_o → ∀ (ls : Array Slot) (H : Heap) (locs : List Loc), lv_has ls 10 [(0, .ref (ad 0)), (2, .int x2), (4, .int x4), (5, .int x5), (6, .int x6), (7, .int x7), (8, .int x8), (9, .int x9)] → St D A s (wX4 cI ad finding asked upper lower r_items r_sizes t_items t_sizes d_items d_sizes st_size st_need st_lifted st_licked st_morning st_tally st_kinds st_places st_lengths st_downs st_covers sl_size sl_need sl_lifted sl_licked sl_morning sl_tally sl_kinds sl_places sl_lengths sl_downs sl_covers as_size as_need as_lifted as_licked as_morning as_tally as_kinds as_places as_lengths as_downs as_covers text place count least inAll inSome scratch findings) H locs → W p l e rmX4_lineToLookAt s m AV below meth c H locs 0 0 Q (F0 m 98 ls []) := by
    intro scratch x2 x7 asked as_size as_need as_lifted as_licked as_morning as_tally as_kinds as_places as_lengths as_downs as_covers x4 x5 x6 x8_o KE n
    induction n with
    | zero =>
      intro x8 x9 h
      exact nomatch (show none = some _ from h)
    | succ n ih =>
      intro x8 x9 h ls H locs hl hG
      have h : fX4_lineToLookAt_B98 scratch x2 x7 (fX4_lineToLookAt_L98 scratch x2 x7 n) x8 x9 = some x8_o := h
      unfold fX4_lineToLookAt_B98 at h
      refine lv_iload hx hb dX4_lineToLookAt_98 (lv_at hl 7 rfl) ?_
      refine lv_bipush (v := 16) hx hb dX4_lineToLookAt_100 (by decide) ?_
      refine lv_icmp_ge (tgt := 135) hx hb dX4_lineToLookAt_102 (by decide) (fun c102 => ?_) (fun c102 => ?_)
      · rw [if_pos c102] at h
        cases h
        exact KE _ _ _ (lv_sub hl [0, 1, 2, 3, 4, 5, 6] rfl) hG
      · rw [if_neg c102] at h
        refine lv_iload hx hb dX4_lineToLookAt_105 (lv_at hl 6 rfl) ?_
        refine lv_iload_n hx hb dX4_lineToLookAt_107 rfl (lv_at hl 1 rfl) ?_
        refine lv_iload hx hb dX4_lineToLookAt_108 (lv_at hl 7 rfl) ?_
        obtain ⟨v110, e110, h⟩ := bd1_some h
        refine x_si0 (rest := [.int x8]) hc hG (cc_X4_bit x2 x9 v110 e110) lX4_155 ⟨rfl, rfl, by decide, by decide⟩ rfl hl.1 (Nat.le_of_ble_eq_true rfl) rfl dX4_lineToLookAt_110 (fun H locs hG => ?_)
        refine lv_aload_n hx hb dX4_lineToLookAt_113 rfl (lv_at hl 0 rfl) ?_
        refine x_get hc hG 0 rfl iX4 8 lX4_57 rfl dX4_lineToLookAt_114 ?_
        refine lv_iload hx hb dX4_lineToLookAt_117 (lv_at hl 7 rfl) ?_
        obtain ⟨v119, e119, h⟩ := bd1_some h
        refine x_ald hc hG 30 rfl e119 dX4_lineToLookAt_119 ?_
        refine lv_iload hx hb dX4_lineToLookAt_120 (lv_at hl 5 rfl) ?_
        obtain ⟨v122, e122, h⟩ := bd1_some h
        refine x_si0 (rest := [.int v110, .int x8]) hc hG (cc_X4_bit v119 x7 v122 e122) lX4_155 ⟨rfl, rfl, by decide, by decide⟩ rfl hl.1 (Nat.le_of_ble_eq_true rfl) rfl dX4_lineToLookAt_122 (fun H locs hG => ?_)
        refine lv_imul hx hb dX4_lineToLookAt_125 ?_
        refine lv_iadd hx hb dX4_lineToLookAt_126 ?_
        refine lv_istore (lv' := [(8, .int (x8 + (v110 * v122))), (0, .ref (ad 0)), (2, .int x2), (4, .int x4), (5, .int x5), (6, .int x6), (7, .int x7), (9, .int x9)]) hx hb dX4_lineToLookAt_127 hl (by decide) rfl (fun ls hl => ?_)
        refine lv_iinc (v := (x9 + 1)) (lv' := [(9, .int (x9 + 1)), (8, .int (x8 + (v110 * v122))), (0, .ref (ad 0)), (2, .int x2), (4, .int x4), (5, .int x5), (6, .int x6), (7, .int x7)]) hx hb dX4_lineToLookAt_129 hl (k := 7) rfl rfl (by decide) rfl (fun ls hl => ?_)
        refine lv_goto (tgt := 98) hx hb dX4_lineToLookAt_132 (by decide) ?_
        exact ih _ _ h _ _ _ (lv_sub hl [2, 3, 4, 5, 6, 7, 1, 0] rfl) hG
  have hL_3 : ∀ (x1 : Int32) (x3 : Int32) (asked : Int32) (x2 : Int32) (as_size_o : Int32) (as_need_o : Int32) (as_lifted_o : Int32) (as_licked_o : Int32) (as_morning_o : Int32) (as_tally_o : Int32) (as_kinds_o : Nat → Int32) (as_places_o : Nat → Int32) (as_lengths_o : Nat → Int32) (as_downs_o : Nat → Int32) (as_covers_o : Nat → Int32) (scratch_o : Nat → Int32), (∀ (ls : Array Slot) (H : Heap) (locs : List Loc), lv_has ls 10 [(0, .ref (ad 0)), (2, .int x2)] → St D A s (wX4 cI ad finding asked upper lower r_items r_sizes t_items t_sizes d_items d_sizes st_size st_need st_lifted st_licked st_morning st_tally st_kinds st_places st_lengths st_downs st_covers sl_size sl_need sl_lifted sl_licked sl_morning sl_tally sl_kinds sl_places sl_lengths sl_downs sl_covers as_size_o as_need_o as_lifted_o as_licked_o as_morning_o as_tally_o as_kinds_o as_places_o as_lengths_o as_downs_o as_covers_o text place count least inAll inSome scratch_o findings) H locs → W p l e rmX4_lineToLookAt s m AV below meth c H locs 0 0 Q (F0 m 67 ls [])) → ∀ (n : Nat) (as_size : Int32) (as_need : Int32) (as_lifted : Int32) (as_licked : Int32) (as_morning : Int32) (as_tally : Int32) (as_kinds : Nat → Int32) (as_places : Nat → Int32) (as_lengths : Nat → Int32) (as_downs : Nat → Int32) (as_covers : Nat → Int32) (scratch : Nat → Int32) (x4 : Int32), fX4_lineToLookAt_L3 sl_size sl_need sl_lifted sl_licked sl_morning sl_tally sl_kinds sl_places sl_lengths sl_downs sl_covers x1 x3 n as_size as_need as_lifted as_licked as_morning as_tally as_kinds as_places as_lengths as_downs as_covers scratch x4 = some (as_size_o, as_need_o, as_lifted_o, as_licked_o, as_morning_o, as_tally_o, as_kinds_o, as_places_o, as_lengths_o, as_downs_o, as_covers_o, scratch_o) → ∀ (ls : Array Slot) (H : Heap) (locs : List Loc), lv_has ls 10 [(0, .ref (ad 0)), (1, .int x1), (2, .int x2), (3, .int x3), (4, .int x4)] → St D A s (wX4 cI ad finding asked upper lower r_items r_sizes t_items t_sizes d_items d_sizes st_size st_need st_lifted st_licked st_morning st_tally st_kinds st_places st_lengths st_downs st_covers sl_size sl_need sl_lifted sl_licked sl_morning sl_tally sl_kinds sl_places sl_lengths sl_downs sl_covers as_size as_need as_lifted as_licked as_morning as_tally as_kinds as_places as_lengths as_downs as_covers text place count least inAll inSome scratch findings) H locs → W p l e rmX4_lineToLookAt s m AV below meth c H locs 0 0 Q (F0 m 3 ls []) := by
    intro x1 x3 asked x2 as_size_o as_need_o as_lifted_o as_licked_o as_morning_o as_tally_o as_kinds_o as_places_o as_lengths_o as_downs_o as_covers_o scratch_o KE n
    induction n with
    | zero =>
      intro as_size as_need as_lifted as_licked as_morning as_tally as_kinds as_places as_lengths as_downs as_covers scratch x4 h
      exact nomatch (show none = some _ from h)
    | succ n ih =>
      intro as_size as_need as_lifted as_licked as_morning as_tally as_kinds as_places as_lengths as_downs as_covers scratch x4 h ls H locs hl hG
      have h : fX4_lineToLookAt_B3 sl_size sl_need sl_lifted sl_licked sl_morning sl_tally sl_kinds sl_places sl_lengths sl_downs sl_covers x1 x3 (fX4_lineToLookAt_L3 sl_size sl_need sl_lifted sl_licked sl_morning sl_tally sl_kinds sl_places sl_lengths sl_downs sl_covers x1 x3 n) as_size as_need as_lifted as_licked as_morning as_tally as_kinds as_places as_lengths as_downs as_covers scratch x4 = some (as_size_o, as_need_o, as_lifted_o, as_licked_o, as_morning_o, as_tally_o, as_kinds_o, as_places_o, as_lengths_o, as_downs_o, as_covers_o, scratch_o) := h
      unfold fX4_lineToLookAt_B3 at h
      refine lv_iload hx hb dX4_lineToLookAt_3 (lv_at hl 4 rfl) ?_
      refine lv_bipush (v := 16) hx hb dX4_lineToLookAt_5 (by decide) ?_
      refine lv_icmp_ge (tgt := 67) hx hb dX4_lineToLookAt_7 (by decide) (fun c7 => ?_) (fun c7 => ?_)
      · rw [if_pos c7] at h
        cases h
        exact KE _ _ _ (lv_sub hl [0, 2] rfl) hG
      · rw [if_neg c7] at h
        refine lv_aload_n hx hb dX4_lineToLookAt_10 rfl (lv_at hl 0 rfl) ?_
        refine x_get hc hG 0 rfl iX4 5 lX4_38 rfl dX4_lineToLookAt_11 ?_
        refine lv_aload_n hx hb dX4_lineToLookAt_14 rfl (lv_at hl 0 rfl) ?_
        refine x_get hc hG 0 rfl iX4 4 lX4_35 rfl dX4_lineToLookAt_15 ?_
        obtain ⟨as_size_18, as_need_18, as_lifted_18, as_licked_18, as_morning_18, as_tally_18, as_kinds_18, as_places_18, as_lengths_18, as_downs_18, as_covers_18, e18, h⟩ := bd11_some h
        refine x_vv (rest := []) (ws' := (wX4 cI ad finding asked upper lower r_items r_sizes t_items t_sizes d_items d_sizes st_size st_need st_lifted st_licked st_morning st_tally st_kinds st_places st_lengths st_downs st_covers sl_size sl_need sl_lifted sl_licked sl_morning sl_tally sl_kinds sl_places sl_lengths sl_downs sl_covers as_size_18 as_need_18 as_lifted_18 as_licked_18 as_morning_18 as_tally_18 as_kinds_18 as_places_18 as_lengths_18 as_downs_18 as_covers_18 text place count least inAll inSome scratch findings)) hc hG (cc_X3_take (fun k => match k with | 0 => ad 22 | 1 => ad 23 | 2 => ad 24 | 3 => ad 25 | 4 => ad 26 | 5 => ad 27 | 6 => ad 16 | 7 => ad 17 | 8 => ad 18 | 9 => ad 19 | 10 => ad 20 | _ => ad 21) as_size as_need as_lifted as_licked as_morning as_tally as_kinds as_places as_lengths as_downs as_covers sl_size sl_need sl_lifted sl_licked sl_morning sl_tally sl_kinds sl_places sl_lengths sl_downs sl_covers as_size_18 as_need_18 as_lifted_18 as_licked_18 as_morning_18 as_tally_18 as_kinds_18 as_places_18 as_lengths_18 as_downs_18 as_covers_18 e18) [22, 23, 24, 25, 26, 27, 16, 17, 18, 19, 20, 21] [0, 1, 2, 3, 4, 5, 6, 7, 8, 9, 10, 11, 12, 13, 14, 15, 28, 29, 30, 31] [0, 1, 2, 3, 4, 5, 6, 7, 8, 9, 10, 11, 12, 13, 14, 15, 26, 27, 28, 29, 30, 31, 20, 21, 22, 23, 24, 25, 16, 17, 18, 19] rfl rfl rfl 22 rfl rfl lX4_114 ⟨rfl, rfl, by decide, by decide⟩ rfl hl.1 (Nat.le_of_ble_eq_true rfl) rfl dX4_lineToLookAt_18 (fun H locs hG => ?_)
        refine lv_aload_n hx hb dX4_lineToLookAt_21 rfl (lv_at hl 0 rfl) ?_
        refine x_get hc hG 0 rfl iX4 5 lX4_38 rfl dX4_lineToLookAt_22 ?_
        refine lv_iload_n hx hb dX4_lineToLookAt_25 rfl (lv_at hl 1 rfl) ?_
        refine lv_iload hx hb dX4_lineToLookAt_26 (lv_at hl 4 rfl) ?_
        refine lv_aload_n hx hb dX4_lineToLookAt_28 rfl (lv_at hl 0 rfl) ?_
        refine x_get hc hG 0 rfl iX4 4 lX4_35 rfl dX4_lineToLookAt_29 ?_
        refine lv_iload_n hx hb dX4_lineToLookAt_32 rfl (lv_at hl 1 rfl) ?_
        obtain ⟨v33, e33, h⟩ := bd1_some h
        refine x_vi (rest := [.int x4, .int x1, .ref (ad 22)]) (ws' := (wX4 cI ad finding asked upper lower r_items r_sizes t_items t_sizes d_items d_sizes st_size st_need st_lifted st_licked st_morning st_tally st_kinds st_places st_lengths st_downs st_covers sl_size sl_need sl_lifted sl_licked sl_morning sl_tally sl_kinds sl_places sl_lengths sl_downs sl_covers as_size_18 as_need_18 as_lifted_18 as_licked_18 as_morning_18 as_tally_18 as_kinds_18 as_places_18 as_lengths_18 as_downs_18 as_covers_18 text place count least inAll inSome scratch findings)) hc hG (cc_X3_downOf (fun k => ad (16 + k)) sl_size sl_need sl_lifted sl_licked sl_morning sl_tally sl_kinds sl_places sl_lengths sl_downs sl_covers x1 v33 e33) [16, 17, 18, 19, 20, 21] [0, 1, 2, 3, 4, 5, 6, 7, 8, 9, 10, 11, 12, 13, 14, 15, 22, 23, 24, 25, 26, 27, 28, 29, 30, 31] [0, 1, 2, 3, 4, 5, 6, 7, 8, 9, 10, 11, 12, 13, 14, 15, 26, 27, 28, 29, 30, 31, 16, 17, 18, 19, 20, 21, 22, 23, 24, 25] rfl rfl rfl 16 rfl rfl lX4_149 ⟨rfl, rfl, by decide, by decide⟩ rfl hl.1 (Nat.le_of_ble_eq_true rfl) rfl dX4_lineToLookAt_33 (fun H locs hG => ?_)
        obtain ⟨as_places_36, as_downs_36, as_covers_36, e36, h⟩ := bd3_some h
        refine x_vv (rest := []) (ws' := (wX4 cI ad finding asked upper lower r_items r_sizes t_items t_sizes d_items d_sizes st_size st_need st_lifted st_licked st_morning st_tally st_kinds st_places st_lengths st_downs st_covers sl_size sl_need sl_lifted sl_licked sl_morning sl_tally sl_kinds sl_places sl_lengths sl_downs sl_covers as_size_18 as_need_18 as_lifted_18 as_licked_18 as_morning_18 as_tally_18 as_kinds_18 as_places_36 as_lengths_18 as_downs_36 as_covers_36 text place count least inAll inSome scratch findings)) hc hG (cc_X3_settle (fun k => ad (22 + k)) as_size_18 as_need_18 as_lifted_18 as_licked_18 as_morning_18 as_tally_18 as_kinds_18 as_places_18 as_lengths_18 as_downs_18 as_covers_18 x1 x4 v33 as_places_36 as_downs_36 as_covers_36 e36) [22, 23, 24, 25, 26, 27] [0, 1, 2, 3, 4, 5, 6, 7, 8, 9, 10, 11, 12, 13, 14, 15, 16, 17, 18, 19, 20, 21, 28, 29, 30, 31] [0, 1, 2, 3, 4, 5, 6, 7, 8, 9, 10, 11, 12, 13, 14, 15, 16, 17, 18, 19, 20, 21, 26, 27, 28, 29, 30, 31, 22, 23, 24, 25] rfl rfl rfl 22 rfl rfl lX4_336 ⟨rfl, rfl, by decide, by decide⟩ rfl hl.1 (Nat.le_of_ble_eq_true rfl) rfl dX4_lineToLookAt_36 (fun H locs hG => ?_)
        refine lv_aload_n hx hb dX4_lineToLookAt_39 rfl (lv_at hl 0 rfl) ?_
        refine x_get hc hG 0 rfl iX4 5 lX4_38 rfl dX4_lineToLookAt_40 ?_
        refine lv_iload_n hx hb dX4_lineToLookAt_43 rfl (lv_at hl 3 rfl) ?_
        obtain ⟨as_morning_44, as_tally_44, as_places_44, as_downs_44, as_covers_44, e44, h⟩ := bd5_some h
        refine x_vv (rest := []) (ws' := (wX4 cI ad finding asked upper lower r_items r_sizes t_items t_sizes d_items d_sizes st_size st_need st_lifted st_licked st_morning st_tally st_kinds st_places st_lengths st_downs st_covers sl_size sl_need sl_lifted sl_licked sl_morning sl_tally sl_kinds sl_places sl_lengths sl_downs sl_covers as_size_18 as_need_18 as_lifted_18 as_licked_18 as_morning_44 as_tally_44 as_kinds_18 as_places_44 as_lengths_18 as_downs_44 as_covers_44 text place count least inAll inSome scratch findings)) hc hG (cc_X3_fallTimes (fun k => ad (22 + k)) as_size_18 as_need_18 as_lifted_18 as_licked_18 as_morning_18 as_tally_18 as_kinds_18 as_places_36 as_lengths_18 as_downs_36 as_covers_36 x3 as_morning_44 as_tally_44 as_places_44 as_downs_44 as_covers_44 e44) [22, 23, 24, 25, 26, 27] [0, 1, 2, 3, 4, 5, 6, 7, 8, 9, 10, 11, 12, 13, 14, 15, 16, 17, 18, 19, 20, 21, 28, 29, 30, 31] [0, 1, 2, 3, 4, 5, 6, 7, 8, 9, 10, 11, 12, 13, 14, 15, 16, 17, 18, 19, 20, 21, 26, 27, 28, 29, 30, 31, 22, 23, 24, 25] rfl rfl rfl 22 rfl rfl lX4_187 ⟨rfl, rfl, by decide, by decide⟩ rfl hl.1 (Nat.le_of_ble_eq_true rfl) rfl dX4_lineToLookAt_44 (fun H locs hG => ?_)
        refine lv_aload_n hx hb dX4_lineToLookAt_47 rfl (lv_at hl 0 rfl) ?_
        refine x_get hc hG 0 rfl iX4 8 lX4_57 rfl dX4_lineToLookAt_48 ?_
        refine lv_iload hx hb dX4_lineToLookAt_51 (lv_at hl 4 rfl) ?_
        refine lv_aload_n hx hb dX4_lineToLookAt_53 rfl (lv_at hl 0 rfl) ?_
        refine x_get hc hG 0 rfl iX4 5 lX4_38 rfl dX4_lineToLookAt_54 ?_
        obtain ⟨v57, e57, h⟩ := bd1_some h
        refine x_vi (rest := [.int x4, .ref (ad 30)]) (ws' := (wX4 cI ad finding asked upper lower r_items r_sizes t_items t_sizes d_items d_sizes st_size st_need st_lifted st_licked st_morning st_tally st_kinds st_places st_lengths st_downs st_covers sl_size sl_need sl_lifted sl_licked sl_morning sl_tally sl_kinds sl_places sl_lengths sl_downs sl_covers as_size_18 as_need_18 as_lifted_18 as_licked_18 as_morning_44 as_tally_44 as_kinds_18 as_places_44 as_lengths_18 as_downs_44 as_covers_44 text place count least inAll inSome scratch findings)) hc hG (cc_X3_linesNow (fun k => ad (22 + k)) as_size_18 as_need_18 as_lifted_18 as_licked_18 as_morning_44 as_tally_44 as_kinds_18 as_places_44 as_lengths_18 as_downs_44 as_covers_44 v57 e57) [22, 23, 24, 25, 26, 27] [0, 1, 2, 3, 4, 5, 6, 7, 8, 9, 10, 11, 12, 13, 14, 15, 16, 17, 18, 19, 20, 21, 28, 29, 30, 31] [0, 1, 2, 3, 4, 5, 6, 7, 8, 9, 10, 11, 12, 13, 14, 15, 16, 17, 18, 19, 20, 21, 26, 27, 28, 29, 30, 31, 22, 23, 24, 25] rfl rfl rfl 22 rfl rfl lX4_142 ⟨rfl, rfl, by decide, by decide⟩ rfl hl.1 (Nat.le_of_ble_eq_true rfl) rfl dX4_lineToLookAt_57 (fun H locs hG => ?_)
        obtain ⟨scratch_60, e60, h⟩ := bd1_some h
        refine x_ast (ws' := (wX4 cI ad finding asked upper lower r_items r_sizes t_items t_sizes d_items d_sizes st_size st_need st_lifted st_licked st_morning st_tally st_kinds st_places st_lengths st_downs st_covers sl_size sl_need sl_lifted sl_licked sl_morning sl_tally sl_kinds sl_places sl_lengths sl_downs sl_covers as_size_18 as_need_18 as_lifted_18 as_licked_18 as_morning_44 as_tally_44 as_kinds_18 as_places_44 as_lengths_18 as_downs_44 as_covers_44 text place count least inAll inSome scratch_60 findings)) hc hG 30 rfl e60 rfl dX4_lineToLookAt_60 (fun H locs hG => ?_)
        refine lv_iinc (v := (x4 + 1)) (lv' := [(4, .int (x4 + 1)), (0, .ref (ad 0)), (1, .int x1), (2, .int x2), (3, .int x3)]) hx hb dX4_lineToLookAt_61 hl (k := 4) rfl rfl (by decide) rfl (fun ls hl => ?_)
        refine lv_goto (tgt := 3) hx hb dX4_lineToLookAt_64 (by decide) ?_
        exact ih _ _ _ _ _ _ _ _ _ _ _ _ _ h _ _ _ (lv_sub hl [1, 2, 3, 4, 0] rfl) hG
  have hL_85 : ∀ (scratch : Nat → Int32) (x2 : Int32) (x4 : Int32) (asked : Int32) (as_size : Int32) (as_need : Int32) (as_lifted : Int32) (as_licked : Int32) (as_morning : Int32) (as_tally : Int32) (as_kinds : Nat → Int32) (as_places : Nat → Int32) (as_lengths : Nat → Int32) (as_downs : Nat → Int32) (as_covers : Nat → Int32) (x5_o : Int32) (x6_o : Int32), (∀ (ls : Array Slot) (H : Heap) (locs : List Loc), lv_has ls 10 [(0, .ref (ad 0)), (5, .int x5_o), (6, .int x6_o)] → St D A s (wX4 cI ad finding asked upper lower r_items r_sizes t_items t_sizes d_items d_sizes st_size st_need st_lifted st_licked st_morning st_tally st_kinds st_places st_lengths st_downs st_covers sl_size sl_need sl_lifted sl_licked sl_morning sl_tally sl_kinds sl_places sl_lengths sl_downs sl_covers as_size as_need as_lifted as_licked as_morning as_tally as_kinds as_places as_lengths as_downs as_covers text place count least inAll inSome scratch findings) H locs → W p l e rmX4_lineToLookAt s m AV below meth c H locs 0 0 Q (F0 m 168 ls [])) → ∀ (n : Nat) (x5 : Int32) (x6 : Int32) (x7 : Int32), fX4_lineToLookAt_L85 scratch x2 x4 n x5 x6 x7 = some (x5_o, x6_o) → ∀ (ls : Array Slot) (H : Heap) (locs : List Loc), lv_has ls 10 [(0, .ref (ad 0)), (2, .int x2), (4, .int x4), (5, .int x5), (6, .int x6), (7, .int x7)] → St D A s (wX4 cI ad finding asked upper lower r_items r_sizes t_items t_sizes d_items d_sizes st_size st_need st_lifted st_licked st_morning st_tally st_kinds st_places st_lengths st_downs st_covers sl_size sl_need sl_lifted sl_licked sl_morning sl_tally sl_kinds sl_places sl_lengths sl_downs sl_covers as_size as_need as_lifted as_licked as_morning as_tally as_kinds as_places as_lengths as_downs as_covers text place count least inAll inSome scratch findings) H locs → W p l e rmX4_lineToLookAt s m AV below meth c H locs 0 0 Q (F0 m 85 ls []) := by
    intro scratch x2 x4 asked as_size as_need as_lifted as_licked as_morning as_tally as_kinds as_places as_lengths as_downs as_covers x5_o x6_o KE n
    induction n with
    | zero =>
      intro x5 x6 x7 h
      exact nomatch (show none = some _ from h)
    | succ n ih =>
      intro x5 x6 x7 h ls H locs hl hG
      have h : fX4_lineToLookAt_B85 scratch x2 x4 (fX4_lineToLookAt_L85 scratch x2 x4 n) x5 x6 x7 = some (x5_o, x6_o) := h
      have hj_162 : ∀ (x5 : Int32) (x6 : Int32) (x7 : Int32) , fX4_lineToLookAt_j162 (fX4_lineToLookAt_L85 scratch x2 x4 n) scratch x2 x4 x5 x6 x7 = some (x5_o, x6_o) → ∀ (ls : Array Slot) (H : Heap) (locs : List Loc), lv_has ls 10 [(0, .ref (ad 0)), (2, .int x2), (4, .int x4), (5, .int x5), (6, .int x6), (7, .int x7)] → St D A s (wX4 cI ad finding asked upper lower r_items r_sizes t_items t_sizes d_items d_sizes st_size st_need st_lifted st_licked st_morning st_tally st_kinds st_places st_lengths st_downs st_covers sl_size sl_need sl_lifted sl_licked sl_morning sl_tally sl_kinds sl_places sl_lengths sl_downs sl_covers as_size as_need as_lifted as_licked as_morning as_tally as_kinds as_places as_lengths as_downs as_covers text place count least inAll inSome scratch findings) H locs → W p l e rmX4_lineToLookAt s m AV below meth c H locs 0 0 Q (F0 m 162 ls []) := by
        intro x5 x6 x7 h ls H locs hl hG
        unfold fX4_lineToLookAt_j162 at h
        refine lv_iinc (v := (x7 + 1)) (lv' := [(7, .int (x7 + 1)), (0, .ref (ad 0)), (2, .int x2), (4, .int x4), (5, .int x5), (6, .int x6)]) hx hb dX4_lineToLookAt_162 hl (k := 5) rfl rfl (by decide) rfl (fun ls hl => ?_)
        refine lv_goto (tgt := 85) hx hb dX4_lineToLookAt_165 (by decide) ?_
        exact ih _ _ _ h _ _ _ (lv_sub hl [1, 2, 3, 4, 5, 0] rfl) hG
      unfold fX4_lineToLookAt_B85 at h
      refine lv_iload hx hb dX4_lineToLookAt_85 (lv_at hl 5 rfl) ?_
      refine lv_bipush (v := 8) hx hb dX4_lineToLookAt_87 (by decide) ?_
      refine lv_icmp_ge (tgt := 168) hx hb dX4_lineToLookAt_89 (by decide) (fun c89 => ?_) (fun c89 => ?_)
      · rw [if_pos c89] at h
        cases h
        exact KE _ _ _ (lv_sub hl [0, 3, 4] rfl) hG
      · rw [if_neg c89] at h
        refine lv_iconst (v := 0) hx hb dX4_lineToLookAt_92 (by decide) ?_
        refine lv_istore (lv' := [(8, .int 0), (0, .ref (ad 0)), (2, .int x2), (4, .int x4), (5, .int x5), (6, .int x6), (7, .int x7)]) hx hb dX4_lineToLookAt_93 hl (by decide) rfl (fun ls hl => ?_)
        refine lv_iconst (v := 0) hx hb dX4_lineToLookAt_95 (by decide) ?_
        refine lv_istore (lv' := [(9, .int 0), (8, .int 0), (0, .ref (ad 0)), (2, .int x2), (4, .int x4), (5, .int x5), (6, .int x6), (7, .int x7)]) hx hb dX4_lineToLookAt_96 hl (by decide) rfl (fun ls hl => ?_)
        obtain ⟨x8_L98, e98, h⟩ := bd1_some h
        refine hL_98 _ _ _ _ _ _ _ _ _ _ _ _ _ _ _ _ _ _ _ (fun ls H locs hl hG => ?_) _ _ _ e98 _ _ _ (lv_sub hl [2, 3, 4, 5, 6, 7, 1, 0] rfl) hG
        refine lv_iload hx hb dX4_lineToLookAt_135 (lv_at hl 6 rfl) ?_
        refine lv_iload hx hb dX4_lineToLookAt_137 (lv_at hl 2 rfl) ?_
        refine lv_iload hx hb dX4_lineToLookAt_139 (lv_at hl 6 rfl) ?_
        refine lv_isub hx hb dX4_lineToLookAt_141 ?_
        refine x_max (rest := []) hc lX4_345 hl.1 ⟨by decide, Nat.le_of_ble_eq_true rfl⟩ dX4_lineToLookAt_142 ?_
        refine lv_istore (lv' := [(9, .int (jmax x8_L98 (x4 - x8_L98))), (0, .ref (ad 0)), (2, .int x2), (4, .int x4), (5, .int x5), (6, .int x6), (7, .int x7), (8, .int x8_L98)]) hx hb dX4_lineToLookAt_145 hl (by decide) rfl (fun ls hl => ?_)
        refine lv_iload hx hb dX4_lineToLookAt_147 (lv_at hl 0 rfl) ?_
        refine lv_iload hx hb dX4_lineToLookAt_149 (lv_at hl 5 rfl) ?_
        refine lv_icmp_ge (tgt := 162) hx hb dX4_lineToLookAt_151 (by decide) (fun c151 => ?_) (fun c151 => ?_)
        · rw [if_pos c151] at h
          exact hj_162 _ _ _ h _ _ _ (lv_sub hl [1, 2, 3, 4, 5, 6] rfl) hG
        · rw [if_neg c151] at h
          refine lv_iload hx hb dX4_lineToLookAt_154 (lv_at hl 0 rfl) ?_
          refine lv_istore (lv' := [(6, .int (jmax x8_L98 (x4 - x8_L98))), (9, .int (jmax x8_L98 (x4 - x8_L98))), (0, .ref (ad 0)), (2, .int x2), (4, .int x4), (5, .int x5), (7, .int x7), (8, .int x8_L98)]) hx hb dX4_lineToLookAt_156 hl (by decide) rfl (fun ls hl => ?_)
          refine lv_iload hx hb dX4_lineToLookAt_158 (lv_at hl 6 rfl) ?_
          refine lv_istore (lv' := [(5, .int x7), (6, .int (jmax x8_L98 (x4 - x8_L98))), (9, .int (jmax x8_L98 (x4 - x8_L98))), (0, .ref (ad 0)), (2, .int x2), (4, .int x4), (7, .int x7), (8, .int x8_L98)]) hx hb dX4_lineToLookAt_160 hl (by decide) rfl (fun ls hl => ?_)
          exact hj_162 _ _ _ h _ _ _ (lv_sub hl [3, 4, 5, 0, 1, 6] rfl) hG
  unfold fX4_lineToLookAt at h
  refine lv_iconst (v := 0) hx hb dX4_lineToLookAt_0 (by decide) ?_
  refine lv_istore (lv' := [(4, .int 0), (0, .ref (ad 0)), (1, .int x1), (2, .int x2), (3, .int x3)]) hx hb dX4_lineToLookAt_1 hl (by decide) rfl (fun ls hl => ?_)
  obtain ⟨as_size_L3, as_need_L3, as_lifted_L3, as_licked_L3, as_morning_L3, as_tally_L3, as_kinds_L3, as_places_L3, as_lengths_L3, as_downs_L3, as_covers_L3, scratch_L3, e3, h⟩ := bd12_some h
  refine hL_3 _ _ _ _ _ _ _ _ _ _ _ _ _ _ _ _ (fun ls H locs hl hG => ?_) _ _ _ _ _ _ _ _ _ _ _ _ _ _ e3 _ _ _ (lv_sub hl [1, 2, 3, 4, 0] rfl) hG
  refine lv_iload_n hx hb dX4_lineToLookAt_67 rfl (lv_at hl 1 rfl) ?_
  refine x_si0 (rest := []) hc hG (cJ_bitc x2) lX4_217 ⟨rfl, rfl, by decide, by decide⟩ rfl hl.1 (Nat.le_of_ble_eq_true rfl) rfl dX4_lineToLookAt_68 (fun H locs hG => ?_)
  refine lv_istore (lv' := [(4, .int (bitc x2)), (0, .ref (ad 0)), (2, .int x2)]) hx hb dX4_lineToLookAt_71 hl (by decide) rfl (fun ls hl => ?_)
  refine lv_iconst (v := 0) hx hb dX4_lineToLookAt_73 (by decide) ?_
  refine lv_istore (lv' := [(5, .int 0), (4, .int (bitc x2)), (0, .ref (ad 0)), (2, .int x2)]) hx hb dX4_lineToLookAt_74 hl (by decide) rfl (fun ls hl => ?_)
  refine lv_iload hx hb dX4_lineToLookAt_76 (lv_at hl 1 rfl) ?_
  refine lv_iconst (v := 1) hx hb dX4_lineToLookAt_78 (by decide) ?_
  refine lv_iadd hx hb dX4_lineToLookAt_79 ?_
  refine lv_istore (lv' := [(6, .int ((bitc x2) + 1)), (5, .int 0), (4, .int (bitc x2)), (0, .ref (ad 0)), (2, .int x2)]) hx hb dX4_lineToLookAt_80 hl (by decide) rfl (fun ls hl => ?_)
  refine lv_iconst (v := 0) hx hb dX4_lineToLookAt_82 (by decide) ?_
  refine lv_istore (lv' := [(7, .int 0), (6, .int ((bitc x2) + 1)), (5, .int 0), (4, .int (bitc x2)), (0, .ref (ad 0)), (2, .int x2)]) hx hb dX4_lineToLookAt_83 hl (by decide) rfl (fun ls hl => ?_)
  obtain ⟨x5_L85, x6_L85, e85, h⟩ := bd2_some h
  refine hL_85 _ _ _ _ _ _ _ _ _ _ _ _ _ _ _ _ _ (fun ls H locs hl hG => ?_) _ _ _ _ e85 _ _ _ (lv_sub hl [4, 5, 3, 2, 1, 0] rfl) hG
  refine lv_aload_n hx hb dX4_lineToLookAt_168 rfl (lv_at hl 0 rfl) ?_
  refine lv_iload hx hb dX4_lineToLookAt_169 (lv_at hl 2 rfl) ?_
  refine x_put (ws' := (wX4 cI ad finding x6_L85 upper lower r_items r_sizes t_items t_sizes d_items d_sizes st_size st_need st_lifted st_licked st_morning st_tally st_kinds st_places st_lengths st_downs st_covers sl_size sl_need sl_lifted sl_licked sl_morning sl_tally sl_kinds sl_places sl_lengths sl_downs sl_covers as_size_L3 as_need_L3 as_lifted_L3 as_licked_L3 as_morning_L3 as_tally_L3 as_kinds_L3 as_places_L3 as_lengths_L3 as_downs_L3 as_covers_L3 text place count least inAll inSome scratch_L3 findings)) hc hG 0 rfl iX4 tyX4 tyX4_ok nmX4 11 lX4_178 rfl rfl rfl (Nat.le_of_ble_eq_true rfl) rfl dX4_lineToLookAt_171 (fun H locs hG => ?_)
  refine lv_iload hx hb dX4_lineToLookAt_174 (lv_at hl 1 rfl) ?_
  cases h
  exact hret _ _ _ _ hG dX4_lineToLookAt_176 rfl
