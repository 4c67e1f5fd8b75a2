/-! ===== pure: more steps of rows and texts ===== -/
theorem in0_1 {k i : Nat} (hk : k < 2 ^ 30) (hi : i < k) : fX5_in0 (nI i) 0 (nI k - 1) = some 1 := by
  have e : (nI k - 1).toInt = (k : Int) - 1 := pk_sub_toInt (a := k) (b := 1) hk (by decide)
  rw [in0_eq, if_neg (nI_pos (by omega)), if_neg]
  rw [Int32.lt_iff_toInt_lt, e, nI_toInt (by omega)]
  omega
theorem in0_0 {k : Nat} {x : Int32} (hk : k < 2 ^ 30) (h : x < 0 ∨ nI k ≤ x) : fX5_in0 x 0 (nI k - 1) = some 0 := by
  have e : (nI k - 1).toInt = (k : Int) - 1 := pk_sub_toInt (a := k) (b := 1) hk (by decide)
  rw [in0_eq]
  rcases h with h | h
  · rw [if_pos h]
  · have : nI k - 1 < x := by
      rw [Int32.le_iff_toInt_le, nI_toInt (by omega)] at h
      rw [Int32.lt_iff_toInt_lt, e]
      omega
    split
    · rfl
    · first | rfl | rw [if_pos this]
theorem rix {r i : Nat} : (40 : Int32) * nI r + nI i = nI (40 * r + i) := by
  show nI 40 * nI r + nI i = _
  rw [nI_mul, nI_add]
theorem tix {r i : Nat} : (60 : Int32) * nI r + nI i = nI (60 * r + i) := by
  show nI 60 * nI r + nI i = _
  rw [nI_mul, nI_add]
theorem fd4_1 (F : Nat → Int32) : fX4_find F 1 = some (-3, 1, upd F 1 (F 1 + 1)) := (find_n F (j := 1) (by decide) (by decide)).1
theorem fd4_2 (F : Nat → Int32) : fX4_find F 2 = some (-3, 2, upd F 2 (F 2 + 1)) := (find_n F (j := 2) (by decide) (by decide)).1
theorem fd4_3 (F : Nat → Int32) : fX4_find F 3 = some (-3, 3, upd F 3 (F 3 + 1)) := (find_n F (j := 3) (by decide) (by decide)).1
theorem fd4_4 (F : Nat → Int32) : fX4_find F 4 = some (-3, 4, upd F 4 (F 4 + 1)) := (find_n F (j := 4) (by decide) (by decide)).1
theorem fd4_5 (F : Nat → Int32) : fX4_find F 5 = some (-3, 5, upd F 5 (F 5 + 1)) := (find_n F (j := 5) (by decide) (by decide)).1
theorem fd5_1 (F : Nat → Int32) : fX5_found0 F 1 = some (-3, 1, upd F 1 (F 1 + 1)) := (find_n F (j := 1) (by decide) (by decide)).2
theorem fd5_2 (F : Nat → Int32) : fX5_found0 F 2 = some (-3, 2, upd F 2 (F 2 + 1)) := (find_n F (j := 2) (by decide) (by decide)).2
theorem fd5_3 (F : Nat → Int32) : fX5_found0 F 3 = some (-3, 3, upd F 3 (F 3 + 1)) := (find_n F (j := 3) (by decide) (by decide)).2
theorem fd5_4 (F : Nat → Int32) : fX5_found0 F 4 = some (-3, 4, upd F 4 (F 4 + 1)) := (find_n F (j := 4) (by decide) (by decide)).2
theorem fd5_5 (F : Nat → Int32) : fX5_found0 F 5 = some (-3, 5, upd F 5 (F 5 + 1)) := (find_n F (j := 5) (by decide) (by decide)).2
theorem a4 {f : Nat → Int32} {i : Nat} (hi : i < 4) : ald 4 f (nI i) = some (f i) := ald_nI hi (by decide)
theorem t4 {f : Nat → Int32} {i : Nat} {x : Int32} (hi : i < 4) : ast 4 f (nI i) x = some (upd f i x) := ast_nI hi (by decide)
theorem step_lay : Step_lay Rel := by
  intro c d h x1 x2 x3
  obtain ⟨⟨a1, a2, a3, a4, a5⟩, hB, hC, hD⟩ := id h
  rcases spl x1 (k := 6) (by decide) with ⟨r, hr, rfl⟩ | hout
  · rcases hB r hr with ⟨s1, s2⟩ | ⟨k, hk, s1, s2, hq⟩
    · refine go2 (map_some (by unfold fX4_lay; rw [(row_in r hr).1, bd1_s, if_neg one_ne, s_miss1 (by decide) hr s1, bd1_s, if_neg one_ne, fd4_1, bd3_s])) (map_some (by unfold fX5_lay; rw [(row_in r hr).2, bd1_s, if_neg one_ne, a6 hr, bd1_s, if_pos s2, fd5_1, bd3_s])) (by rfl) ?_
      exact ⟨⟨rfl, a2, a3, a4, upd_eq6 a5 (by decide)⟩, hB, hC, hD⟩
    · have c9 : ¬ nI k = -9 := (m1_ne (by omega)).2
      have v2 : ald 6 (ms_rowSize d) (nI r) = some (nI k) := by rw [a6 hr]; exact congrArg some s2
      rcases spl x2 (k := k) (by omega) with ⟨i, hi, rfl⟩ | hx
      · have g4 : fX2_get 240 6 40 (cs_r_items c) (cs_r_sizes c) (nI r) (nI i) = _ := s_get (m := 6) (N := 240) (w := 40) (by decide) (by decide) (by decide) hr hk s1 hi (by omega)
        have t4 : fX2_set 240 6 40 (cs_r_items c) (cs_r_sizes c) (nI r) (nI i) x3 = _ := s_set (m := 6) (N := 240) (w := 40) (by decide) (by decide) (by decide) hr hk s1 hi (by omega)
        refine go2 (map_some (by unfold fX4_lay fX4_tell; rw [(row_in r hr).1, bd1_s, if_neg one_ne, s_miss0 (by decide) hr (by omega) s1, bd1_s, if_pos rfl, s_has1 (by decide) hr (by omega) s1 hi, bd1_s, if_neg one_ne, g4, bd1_s, t4, bd1_s, bd2_s])) (map_some (by unfold fX5_lay fX5_tells; rw [(row_in r hr).2, bd1_s, if_neg one_ne, v2, bd1_s, if_neg c9, bd1_s, in0_1 (by omega) hi, bd1_s, if_neg one_ne, rix, ald_nI (by omega) (by decide), bd1_s, ast_nI (by omega) (by decide), bd1_s, bd2_s])) (by rfl) ?_
        exact ⟨⟨a1, (hq i hi).1, a3, a4, a5⟩, RW.set hB (by omega) trivial, hC, hD⟩
      · refine go2 (map_some (by unfold fX4_lay; rw [(row_in r hr).1, bd1_s, if_neg one_ne, s_miss0 (by decide) hr (by omega) s1, bd1_s, if_pos rfl, s_has0 (by decide) hr s1 hx, bd1_s, if_pos rfl, fd4_2, bd3_s])) (map_some (by unfold fX5_lay; rw [(row_in r hr).2, bd1_s, if_neg one_ne, v2, bd1_s, if_neg c9, bd1_s, in0_0 (by omega) hx, bd1_s, if_pos rfl, fd5_2, bd3_s])) (by rfl) ?_
        exact ⟨⟨rfl, a2, a3, a4, upd_eq6 a5 (by decide)⟩, hB, hC, hD⟩
  · exact go2 (map_some (by unfold fX4_lay; rw [(row_out hout).1, bd1_s, if_pos rfl])) (map_some (by unfold fX5_lay; rw [(row_out hout).2, bd1_s, if_pos rfl])) (by rfl) h
theorem step_at : Step_at Rel := by
  intro c d h x1 x2
  obtain ⟨⟨a1, a2, a3, a4, a5⟩, hB, hC, hD⟩ := id h
  rcases spl x1 (k := 6) (by decide) with ⟨r, hr, rfl⟩ | hout
  · rcases hB r hr with ⟨s1, s2⟩ | ⟨k, hk, s1, s2, hq⟩
    · refine go2 (map_some (by unfold fX4_at; rw [(row_in r hr).1, bd1_s, if_neg one_ne, s_miss1 (by decide) hr s1, bd1_s, if_neg one_ne, fd4_1, bd3_s])) (map_some (by unfold fX5_at; rw [(row_in r hr).2, bd1_s, if_neg one_ne, a6 hr, bd1_s, if_pos s2, fd5_1, bd3_s])) (by rfl) ?_
      exact ⟨⟨rfl, a2, a3, a4, upd_eq6 a5 (by decide)⟩, hB, hC, hD⟩
    · have c9 : ¬ nI k = -9 := (m1_ne (by omega)).2
      have v2 : ald 6 (ms_rowSize d) (nI r) = some (nI k) := by rw [a6 hr]; exact congrArg some s2
      rcases spl x2 (k := k) (by omega) with ⟨i, hi, rfl⟩ | hx
      · have g4 : fX2_get 240 6 40 (cs_r_items c) (cs_r_sizes c) (nI r) (nI i) = _ := s_get (m := 6) (N := 240) (w := 40) (by decide) (by decide) (by decide) hr hk s1 hi (by omega)
        refine go2 (map_some (by unfold fX4_at fX4_tell; rw [(row_in r hr).1, bd1_s, if_neg one_ne, s_miss0 (by decide) hr (by omega) s1, bd1_s, if_pos rfl, s_has1 (by decide) hr (by omega) s1 hi, bd1_s, if_neg one_ne, g4, bd1_s, bd2_s])) (map_some (by unfold fX5_at fX5_tells; rw [(row_in r hr).2, bd1_s, if_neg one_ne, v2, bd1_s, if_neg c9, bd1_s, in0_1 (by omega) hi, bd1_s, if_neg one_ne, rix, ald_nI (by omega) (by decide), bd1_s, bd2_s])) (by rfl) ?_
        exact ⟨⟨a1, (hq i hi).1, a3, a4, a5⟩, hB, hC, hD⟩
      · refine go2 (map_some (by unfold fX4_at; rw [(row_in r hr).1, bd1_s, if_neg one_ne, s_miss0 (by decide) hr (by omega) s1, bd1_s, if_pos rfl, s_has0 (by decide) hr s1 hx, bd1_s, if_pos rfl, fd4_2, bd3_s])) (map_some (by unfold fX5_at; rw [(row_in r hr).2, bd1_s, if_neg one_ne, v2, bd1_s, if_neg c9, bd1_s, in0_0 (by omega) hx, bd1_s, if_pos rfl, fd5_2, bd3_s])) (by rfl) ?_
        exact ⟨⟨rfl, a2, a3, a4, upd_eq6 a5 (by decide)⟩, hB, hC, hD⟩
  · exact go2 (map_some (by unfold fX4_at; rw [(row_out hout).1, bd1_s, if_pos rfl])) (map_some (by unfold fX5_at; rw [(row_out hout).2, bd1_s, if_pos rfl])) (by rfl) h
theorem s_remove {m : Nat} {sizes : Nat → Int32} (hm : m < 2 ^ 31) {r : Nat} (hr : r < m) : fX2_remove m sizes (nI r) = some (upd sizes r (-1)) := by
  unfold fX2_remove
  have c2 : ¬ Int32.ofNat m ≤ nI r := nI_ge hr hm
  rw [if_neg (nI_pos (by omega)), if_neg c2, ast_nI hr hm, bd1_s]
theorem step_tear : Step_tear Rel := by
  intro c d h x1
  obtain ⟨⟨a1, a2, a3, a4, a5⟩, hB, hC, hD⟩ := id h
  rcases spl x1 (k := 6) (by decide) with ⟨r, hr, rfl⟩ | hout
  · rcases hB r hr with ⟨s1, s2⟩ | ⟨k, hk, s1, s2, hq⟩
    · refine go2 (map_some (by unfold fX4_tear; rw [(row_in r hr).1, bd1_s, if_neg one_ne, s_miss1 (by decide) hr s1, bd1_s, if_neg one_ne, fd4_1, bd3_s])) (map_some (by unfold fX5_tear; rw [(row_in r hr).2, bd1_s, if_neg one_ne, a6 hr, bd1_s, if_pos s2, fd5_1, bd3_s])) (by rfl) ?_
      exact ⟨⟨rfl, a2, a3, a4, upd_eq6 a5 (by decide)⟩, hB, hC, hD⟩
    · have c9 : ¬ nI k = -9 := (m1_ne (by omega)).2
      have v2 : ald 6 (ms_rowSize d) (nI r) = some (nI k) := by rw [a6 hr]; exact congrArg some s2
      refine go2 (map_some (by unfold fX4_tear; rw [(row_in r hr).1, bd1_s, if_neg one_ne, s_miss0 (by decide) hr (by omega) s1, bd1_s, if_pos rfl, s_remove (by decide) hr, bd1_s])) (map_some (by unfold fX5_tear; rw [(row_in r hr).2, bd1_s, if_neg one_ne, v2, bd1_s, if_neg c9, t6 hr, bd1_s])) (by rfl) ?_
      exact ⟨⟨a1, a2, a3, a4, a5⟩, RW.tear hB, hC, hD⟩
  · exact go2 (map_some (by unfold fX4_tear; rw [(row_out hout).1, bd1_s, if_pos rfl])) (map_some (by unfold fX5_tear; rw [(row_out hout).2, bd1_s, if_pos rfl])) (by rfl) h
theorem byte_32 : byteR 32 := ⟨by decide, by decide⟩
theorem step_text : Step_text Rel := by
  intro c d h x1 x2
  obtain ⟨⟨a1, a2, a3, a4, a5⟩, hB, hC, hD⟩ := id h
  rcases spl x1 (k := 4) (by decide) with ⟨r, hr, rfl⟩ | hout
  · by_cases h0 : x2 < 0
    · have c1 : x2 ≤ 60 := by
        rw [Int32.lt_iff_toInt_lt] at h0
        rw [Int32.le_iff_toInt_le]
        have e0 : (0 : Int32).toInt = 0 := by decide
        have e1 : (60 : Int32).toInt = 60 := by decide
        omega
      have c2 : ¬ 0 ≤ x2 := by rw [Int32.not_le]; exact h0
      refine go2 (map_some (by unfold fX4_text; rw [(txt_in r hr).1, bd1_s, if_neg one_ne, if_pos c1, if_neg c2, fd4_5, bd3_s])) (map_some (by unfold fX5_text; rw [(txt_in r hr).2, bd1_s, if_neg one_ne, if_pos c1, if_neg c2, fd5_5, bd3_s])) (by rfl) ?_
      exact ⟨⟨rfl, a2, a3, a4, upd_eq6 a5 (by decide)⟩, hB, hC, hD⟩
    · obtain ⟨k, hk, rfl⟩ := nI_of h0
      have c2 : 0 ≤ nI k := nI_pos' hk
      by_cases h60 : k ≤ 60
      · have c1 : nI k ≤ 60 := nI_le (a := k) (b := 60) h60 (by decide)
        have e4 : fX2_make 240 4 60 (cs_t_items c) (cs_t_sizes c) (nI r) (nI k) 32 = _ := s_make (m := 4) (N := 240) (w := 60) (by decide) (by decide) (by decide) hr h60 (by omega) (by decide)
        have e5 : fX5_text_L34 (nI r) FU (ms_texts d) 0 = some (fillN (ms_texts d) (60 * r) 60 32) := by
          have := m_text_L hr (ms_texts d) 60 0 FU rfl (by decide)
          rw [fill0] at this
          exact this
        refine go2 (map_some (by unfold fX4_text; rw [(txt_in r hr).1, bd1_s, if_neg one_ne, if_pos c1, if_pos c2, e4, bd2_s])) (map_some (by unfold fX5_text; rw [(txt_in r hr).2, bd1_s, if_neg one_ne, if_pos c1, if_pos c2, t4 hr, bd1_s, e5, bd1_s])) (by rfl) ?_
        exact ⟨⟨a1, a2, a3, a4, a5⟩, hB, RW.make hC h60 byte_32, hD⟩
      · have c1 : ¬ nI k ≤ 60 := nI_ge (a := 60) (b := k) (by omega) hk
        exact go2 (map_some (by unfold fX4_text; rw [(txt_in r hr).1, bd1_s, if_neg one_ne, if_neg c1])) (map_some (by unfold fX5_text; rw [(txt_in r hr).2, bd1_s, if_neg one_ne, if_neg c1])) (by rfl) h
  · exact go2 (map_some (by unfold fX4_text; rw [(txt_out hout).1, bd1_s, if_pos rfl])) (map_some (by unfold fX5_text; rw [(txt_out hout).2, bd1_s, if_pos rfl])) (by rfl) h
