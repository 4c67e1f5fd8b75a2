/-! ===== pure: the steps fault, slice ===== -/
theorem c_gone_L : ∀ (m j fuel : Nat) (dsz : Nat → Int32), (∀ x, x < j → dsz x = -1) → j + m = 3 → m < fuel → ∃ d', fX4_slice_L66 fuel dsz (nI j) = some d' ∧ ∀ x, x < 3 → d' x = -1 := by
  intro m
  induction m with
  | zero =>
    intro j fuel d hd h1 h2
    obtain ⟨f, rfl⟩ : ∃ f, fuel = f + 1 := ⟨fuel - 1, by omega⟩
    have hj : j = 3 := by omega
    subst hj
    refine ⟨d, ?_, hd⟩
    show fX4_slice_B66 _ _ _ = _
    unfold fX4_slice_B66
    rw [if_pos (by decide)]
  | succ m ih =>
    intro j fuel d hd h1 h2
    obtain ⟨f, rfl⟩ : ∃ f, fuel = f + 1 := ⟨fuel - 1, by omega⟩
    have c : ¬ (3 : Int32) ≤ nI j := nI_ge (b := 3) (by omega) (by decide)
    obtain ⟨d', e, h'⟩ := ih (j + 1) f (upd d j (-1)) (fun x hx => by
      by_cases ex : x = j
      · subst ex; rw [upd_s]
      · rw [upd_n _ _ ex]; exact hd x (by omega)) (by omega) (by omega)
    refine ⟨d', ?_, h'⟩
    show fX4_slice_B66 _ _ _ = _
    unfold fX4_slice_B66
    rw [if_neg c, s_remove (by decide) (by omega), bd1_s, nI_1]
    exact e
theorem m_gone_L : ∀ (m j fuel : Nat) (kd : Nat → Int32), (∀ x, x < j → kd x = -9) → j + m = 3 → m < fuel → ∃ d', fX5_slice_L61 fuel kd (nI j) = some d' ∧ ∀ x, x < 3 → d' x = -9 := by
  intro m
  induction m with
  | zero =>
    intro j fuel d hd h1 h2
    obtain ⟨f, rfl⟩ : ∃ f, fuel = f + 1 := ⟨fuel - 1, by omega⟩
    have hj : j = 3 := by omega
    subst hj
    refine ⟨d, ?_, hd⟩
    show fX5_slice_B61 _ _ _ = _
    unfold fX5_slice_B61
    rw [if_pos (by decide)]
  | succ m ih =>
    intro j fuel d hd h1 h2
    obtain ⟨f, rfl⟩ : ∃ f, fuel = f + 1 := ⟨fuel - 1, by omega⟩
    have c : ¬ (3 : Int32) ≤ nI j := nI_ge (b := 3) (by omega) (by decide)
    obtain ⟨d', e, h'⟩ := ih (j + 1) f (upd d j (-9)) (fun x hx => by
      by_cases ex : x = j
      · subst ex; rw [upd_s]
      · rw [upd_n _ _ ex]; exact hd x (by omega)) (by omega) (by omega)
    refine ⟨d', ?_, h'⟩
    show fX5_slice_B61 _ _ _ = _
    unfold fX5_slice_B61
    rw [if_neg c, ast_nI (by omega) (by decide), bd1_s, nI_1]
    exact e
theorem step_fault : Step_fault Rel := by
  intro c d h x1
  obtain ⟨⟨q1, q2, q3, q4, q5⟩, hB, hC, hD⟩ := id h
  rcases spl x1 (k := 4) (by decide) with ⟨t, ht, rfl⟩ | hx
  rotate_left
  · have w4 : fX4_fault (cs_finding c) (cs_t_items c) (cs_t_sizes c) (cs_as_size c) (cs_as_need c) (cs_as_lifted c) (cs_as_licked c) (cs_as_morning c) (cs_as_tally c) (cs_as_kinds c) (cs_as_places c) (cs_as_lengths c) (cs_as_downs c) (cs_as_covers c) (cs_text c) (cs_place c) (cs_findings c) x1 = some (-1, cs_finding c, cs_as_size c, cs_as_need c, cs_as_lifted c, cs_as_licked c, cs_as_morning c, cs_as_tally c, cs_as_kinds c, cs_as_places c, cs_as_lengths c, cs_as_downs c, cs_as_covers c, cs_text c, cs_place c, cs_findings c) := by unfold fX4_fault; rw [(txt_out hx).1, bd1_s, if_pos rfl]
    have w5 : fX5_fault (ms_finding d) (ms_m_at d) (ms_wrong d) (ms_textSize d) (ms_texts d) (ms_draft d) (ms_findings d) x1 = some (-1, ms_finding d, ms_m_at d, ms_wrong d, ms_draft d, ms_findings d) := by unfold fX5_fault; rw [(txt_out hx).2, bd1_s, if_pos rfl]
    exact go2 (map_some w4) (map_some w5) rfl h
  rcases hC t ht with ⟨s1, s2⟩ | ⟨K, hK, s1, s2, hi⟩
  · have w4 : fX4_fault (cs_finding c) (cs_t_items c) (cs_t_sizes c) (cs_as_size c) (cs_as_need c) (cs_as_lifted c) (cs_as_licked c) (cs_as_morning c) (cs_as_tally c) (cs_as_kinds c) (cs_as_places c) (cs_as_lengths c) (cs_as_downs c) (cs_as_covers c) (cs_text c) (cs_place c) (cs_findings c) (nI t) = some (-3, 1, cs_as_size c, cs_as_need c, cs_as_lifted c, cs_as_licked c, cs_as_morning c, cs_as_tally c, cs_as_kinds c, cs_as_places c, cs_as_lengths c, cs_as_downs c, cs_as_covers c, cs_text c, cs_place c, upd (cs_findings c) 1 (cs_findings c 1 + 1)) := by unfold fX4_fault; rw [(txt_in t ht).1, bd1_s, if_neg one_ne, s_miss1 (by decide) ht s1, bd1_s, if_neg one_ne, fd4_1, bd3_s]
    have w5 : fX5_fault (ms_finding d) (ms_m_at d) (ms_wrong d) (ms_textSize d) (ms_texts d) (ms_draft d) (ms_findings d) (nI t) = some (-3, 1, ms_m_at d, ms_wrong d, ms_draft d, upd (ms_findings d) 1 (ms_findings d 1 + 1)) := by unfold fX5_fault; rw [(txt_in t ht).2, bd1_s, if_neg one_ne, a4 ht, bd1_s, if_pos s2, fd5_1, bd3_s]
    exact go2 (map_some w4) (map_some w5) rfl ⟨⟨rfl, q2, q3, q4, upd_eq6 q5 (j := 1) (by decide)⟩, hB, hC, hD⟩
  have hT : TX t K (cs_t_sizes c) (cs_t_items c) (ms_textSize d) (ms_texts d) := ⟨ht, hK, s1, s2, hi⟩
  have c9 : ¬ ms_textSize d t = -9 := by rw [s2]; exact (m1_ne (by omega)).2
  have em : fX2_isMissing 4 (cs_t_sizes c) (nI t) = some 0 := s_miss0 (by decide) ht (by omega) s1
  rcases read_eq hT (cs_as_kinds c) (cs_as_places c) (cs_as_lengths c) (cs_as_downs c) (cs_as_covers c) (ms_draft d) with ⟨k', v, pl, r1, kn, pls, ln, dn, cv, at', dr, hk0, hP, hS, har, e4, e5, -⟩ | ⟨f, r1, r2, r3, r4, r5, r6, r7, r8, r9, r10, r11, r12, r13, at', wr, dr, hf, e4, e5⟩
  · have w4 : fX4_fault (cs_finding c) (cs_t_items c) (cs_t_sizes c) (cs_as_size c) (cs_as_need c) (cs_as_lifted c) (cs_as_licked c) (cs_as_morning c) (cs_as_tally c) (cs_as_kinds c) (cs_as_places c) (cs_as_lengths c) (cs_as_downs c) (cs_as_covers c) (cs_text c) (cs_place c) (cs_findings c) (nI t) = some (-9, cs_finding c, nI k', nI (v 0), 0, 0, 0, 0, kn, pls, ln, dn, cv, nI t, pl, cs_findings c) := by unfold fX4_fault; rw [(txt_in t ht).1, bd1_s, if_neg one_ne, em, bd1_s, if_pos rfl, e4, bd14_s]
    have w5 : fX5_fault (ms_finding d) (ms_m_at d) (ms_wrong d) (ms_textSize d) (ms_texts d) (ms_draft d) (ms_findings d) (nI t) = some (-9, ms_finding d, at', -9, dr, ms_findings d) := by unfold fX5_fault; rw [(txt_in t ht).2, bd1_s, if_neg one_ne, a4 ht, bd1_s, if_neg c9, e5, bd4_s]
    exact go2 (map_some w4) (map_some w5) rfl ⟨⟨q1, q2, q3, q4, q5⟩, hB, hC, hD⟩
  · have w4 : fX4_fault (cs_finding c) (cs_t_items c) (cs_t_sizes c) (cs_as_size c) (cs_as_need c) (cs_as_lifted c) (cs_as_licked c) (cs_as_morning c) (cs_as_tally c) (cs_as_kinds c) (cs_as_places c) (cs_as_lengths c) (cs_as_downs c) (cs_as_covers c) (cs_text c) (cs_place c) (cs_findings c) (nI t) = some (nI f, cs_finding c, r3, r4, r5, r6, r7, r8, r9, r10, r11, r12, r13, r1, r2, cs_findings c) := by unfold fX4_fault; rw [(txt_in t ht).1, bd1_s, if_neg one_ne, em, bd1_s, if_pos rfl, e4, bd14_s]
    have w5 : fX5_fault (ms_finding d) (ms_m_at d) (ms_wrong d) (ms_textSize d) (ms_texts d) (ms_draft d) (ms_findings d) (nI t) = some (nI f, ms_finding d, at', wr, dr, ms_findings d) := by unfold fX5_fault; rw [(txt_in t ht).2, bd1_s, if_neg one_ne, a4 ht, bd1_s, if_neg c9, e5, bd4_s]
    exact go2 (map_some w4) (map_some w5) rfl ⟨⟨q1, q2, q3, q4, q5⟩, hB, hC, hD⟩
theorem step_slice : Step_slice Rel := by
  intro c d h x1
  obtain ⟨⟨q1, q2, q3, q4, q5⟩, hB, hC, hD⟩ := id h
  rcases spl x1 (k := 4) (by decide) with ⟨t, ht, rfl⟩ | hx
  rotate_left
  · have w4 : fX4_slice (cs_finding c) (cs_t_items c) (cs_t_sizes c) (cs_d_items c) (cs_d_sizes c) (cs_st_size c) (cs_st_need c) (cs_st_lifted c) (cs_st_licked c) (cs_st_morning c) (cs_st_tally c) (cs_st_kinds c) (cs_st_places c) (cs_st_lengths c) (cs_st_downs c) (cs_st_covers c) (cs_sl_size c) (cs_sl_need c) (cs_sl_lifted c) (cs_sl_licked c) (cs_sl_morning c) (cs_sl_tally c) (cs_sl_kinds c) (cs_sl_places c) (cs_sl_lengths c) (cs_sl_downs c) (cs_sl_covers c) (cs_as_size c) (cs_as_need c) (cs_as_lifted c) (cs_as_licked c) (cs_as_morning c) (cs_as_tally c) (cs_as_kinds c) (cs_as_places c) (cs_as_lengths c) (cs_as_downs c) (cs_as_covers c) (cs_text c) (cs_place c) (cs_findings c) x1 = some (-1, cs_finding c, cs_d_items c, cs_d_sizes c, cs_st_size c, cs_st_need c, cs_st_lifted c, cs_st_licked c, cs_st_morning c, cs_st_tally c, cs_st_kinds c, cs_st_places c, cs_st_lengths c, cs_st_downs c, cs_st_covers c, cs_sl_size c, cs_sl_need c, cs_sl_lifted c, cs_sl_licked c, cs_sl_morning c, cs_sl_tally c, cs_sl_kinds c, cs_sl_places c, cs_sl_lengths c, cs_sl_downs c, cs_sl_covers c, cs_as_size c, cs_as_need c, cs_as_lifted c, cs_as_licked c, cs_as_morning c, cs_as_tally c, cs_as_kinds c, cs_as_places c, cs_as_lengths c, cs_as_downs c, cs_as_covers c, cs_text c, cs_place c, cs_findings c) := by unfold fX4_slice; rw [(txt_out hx).1, bd1_s, if_pos rfl]
    have w5 : fX5_slice (ms_deeds d) (ms_finding d) (ms_m_at d) (ms_wrong d) (ms_textSize d) (ms_texts d) (ms_now d) (ms_draft d) (ms_keptDeeds d) (ms_findings d) x1 = some (-1, ms_deeds d, ms_finding d, ms_m_at d, ms_wrong d, ms_now d, ms_draft d, ms_keptDeeds d, ms_findings d) := by unfold fX5_slice; rw [(txt_out hx).2, bd1_s, if_pos rfl]
    exact go2 (map_some w4) (map_some w5) rfl h
  rcases hC t ht with ⟨s1, s2⟩ | ⟨K, hK, s1, s2, hi⟩
  · have w4 : fX4_slice (cs_finding c) (cs_t_items c) (cs_t_sizes c) (cs_d_items c) (cs_d_sizes c) (cs_st_size c) (cs_st_need c) (cs_st_lifted c) (cs_st_licked c) (cs_st_morning c) (cs_st_tally c) (cs_st_kinds c) (cs_st_places c) (cs_st_lengths c) (cs_st_downs c) (cs_st_covers c) (cs_sl_size c) (cs_sl_need c) (cs_sl_lifted c) (cs_sl_licked c) (cs_sl_morning c) (cs_sl_tally c) (cs_sl_kinds c) (cs_sl_places c) (cs_sl_lengths c) (cs_sl_downs c) (cs_sl_covers c) (cs_as_size c) (cs_as_need c) (cs_as_lifted c) (cs_as_licked c) (cs_as_morning c) (cs_as_tally c) (cs_as_kinds c) (cs_as_places c) (cs_as_lengths c) (cs_as_downs c) (cs_as_covers c) (cs_text c) (cs_place c) (cs_findings c) (nI t) = some (-3, 1, cs_d_items c, cs_d_sizes c, cs_st_size c, cs_st_need c, cs_st_lifted c, cs_st_licked c, cs_st_morning c, cs_st_tally c, cs_st_kinds c, cs_st_places c, cs_st_lengths c, cs_st_downs c, cs_st_covers c, cs_sl_size c, cs_sl_need c, cs_sl_lifted c, cs_sl_licked c, cs_sl_morning c, cs_sl_tally c, cs_sl_kinds c, cs_sl_places c, cs_sl_lengths c, cs_sl_downs c, cs_sl_covers c, cs_as_size c, cs_as_need c, cs_as_lifted c, cs_as_licked c, cs_as_morning c, cs_as_tally c, cs_as_kinds c, cs_as_places c, cs_as_lengths c, cs_as_downs c, cs_as_covers c, cs_text c, cs_place c, upd (cs_findings c) 1 (cs_findings c 1 + 1)) := by unfold fX4_slice; rw [(txt_in t ht).1, bd1_s, if_neg one_ne, s_miss1 (by decide) ht s1, bd1_s, if_neg one_ne, fd4_1, bd3_s]
    have w5 : fX5_slice (ms_deeds d) (ms_finding d) (ms_m_at d) (ms_wrong d) (ms_textSize d) (ms_texts d) (ms_now d) (ms_draft d) (ms_keptDeeds d) (ms_findings d) (nI t) = some (-3, ms_deeds d, 1, ms_m_at d, ms_wrong d, ms_now d, ms_draft d, ms_keptDeeds d, upd (ms_findings d) 1 (ms_findings d 1 + 1)) := by unfold fX5_slice; rw [(txt_in t ht).2, bd1_s, if_neg one_ne, a4 ht, bd1_s, if_pos s2, fd5_1, bd3_s]
    exact go2 (map_some w4) (map_some w5) rfl ⟨⟨rfl, q2, q3, q4, upd_eq6 q5 (j := 1) (by decide)⟩, hB, hC, hD⟩
  have hT : TX t K (cs_t_sizes c) (cs_t_items c) (ms_textSize d) (ms_texts d) := ⟨ht, hK, s1, s2, hi⟩
  have c9 : ¬ ms_textSize d t = -9 := by rw [s2]; exact (m1_ne (by omega)).2
  have em : fX2_isMissing 4 (cs_t_sizes c) (nI t) = some 0 := s_miss0 (by decide) ht (by omega) s1
  rcases read_eq hT (cs_as_kinds c) (cs_as_places c) (cs_as_lengths c) (cs_as_downs c) (cs_as_covers c) (ms_draft d) with ⟨k', v, pl, r1, kn, pls, ln, dn, cv, at', dr, hk0, hP, hS, har, e4, e5, -⟩ | ⟨f, r1, r2, r3, r4, r5, r6, r7, r8, r9, r10, r11, r12, r13, at', wr, dr, hf, e4, e5⟩
  rotate_left
  · have f9 : ¬ nI f = -9 := (m1_ne (by omega)).2
    have w4 : fX4_slice (cs_finding c) (cs_t_items c) (cs_t_sizes c) (cs_d_items c) (cs_d_sizes c) (cs_st_size c) (cs_st_need c) (cs_st_lifted c) (cs_st_licked c) (cs_st_morning c) (cs_st_tally c) (cs_st_kinds c) (cs_st_places c) (cs_st_lengths c) (cs_st_downs c) (cs_st_covers c) (cs_sl_size c) (cs_sl_need c) (cs_sl_lifted c) (cs_sl_licked c) (cs_sl_morning c) (cs_sl_tally c) (cs_sl_kinds c) (cs_sl_places c) (cs_sl_lengths c) (cs_sl_downs c) (cs_sl_covers c) (cs_as_size c) (cs_as_need c) (cs_as_lifted c) (cs_as_licked c) (cs_as_morning c) (cs_as_tally c) (cs_as_kinds c) (cs_as_places c) (cs_as_lengths c) (cs_as_downs c) (cs_as_covers c) (cs_text c) (cs_place c) (cs_findings c) (nI t) = some (-4, cs_finding c, cs_d_items c, cs_d_sizes c, cs_st_size c, cs_st_need c, cs_st_lifted c, cs_st_licked c, cs_st_morning c, cs_st_tally c, cs_st_kinds c, cs_st_places c, cs_st_lengths c, cs_st_downs c, cs_st_covers c, cs_sl_size c, cs_sl_need c, cs_sl_lifted c, cs_sl_licked c, cs_sl_morning c, cs_sl_tally c, cs_sl_kinds c, cs_sl_places c, cs_sl_lengths c, cs_sl_downs c, cs_sl_covers c, r3, r4, r5, r6, r7, r8, r9, r10, r11, r12, r13, r1, r2, cs_findings c) := by unfold fX4_slice; rw [(txt_in t ht).1, bd1_s, if_neg one_ne, em, bd1_s, if_pos rfl, e4, bd14_s, if_neg f9]
    have w5 : fX5_slice (ms_deeds d) (ms_finding d) (ms_m_at d) (ms_wrong d) (ms_textSize d) (ms_texts d) (ms_now d) (ms_draft d) (ms_keptDeeds d) (ms_findings d) (nI t) = some (-4, ms_deeds d, ms_finding d, at', wr, ms_now d, dr, ms_keptDeeds d, ms_findings d) := by unfold fX5_slice; rw [(txt_in t ht).2, bd1_s, if_neg one_ne, a4 ht, bd1_s, if_neg c9, e5, bd4_s, if_neg f9]
    exact go2 (map_some w4) (map_some w5) rfl ⟨⟨q1, q2, q3, q4, q5⟩, hB, hC, hD⟩
  have hk6 := hP.1.2.1
  obtain ⟨k1, p1, l1, d1, v1, et1, hT1⟩ := c_take (cs_st_kinds c) (cs_st_places c) (cs_st_lengths c) (cs_st_downs c) (cs_st_covers c) (o_size := nI k') (o_need := nI (v 0)) (o_lifted := 0) (o_licked := 0) (o_morning := 0) (o_tally := 0) (o_kinds := kn) (o_places := pls) (o_lengths := ln) (o_downs := dn) (o_covers := cv)
  obtain ⟨k2, p2, l2, d2, v2, et2, hT2⟩ := c_take (cs_sl_kinds c) (cs_sl_places c) (cs_sl_lengths c) (cs_sl_downs c) (cs_sl_covers c) (o_size := nI k') (o_need := nI (v 0)) (o_lifted := 0) (o_licked := 0) (o_morning := 0) (o_tally := 0) (o_kinds := k1) (o_places := p1) (o_lengths := l1) (o_downs := d1) (o_covers := v1)
  have hS1 := hT1 v k' hk6 hS
  have hS2 := hT2 v k' hk6 hS1
  obtain ⟨now', en, hn⟩ := m_tried har (ms_now d)
  obtain ⟨dsz', eg, hg⟩ := c_gone_L 3 0 FU (cs_d_sizes c) (fun x hx => absurd hx (Nat.not_lt_zero x)) (by omega) (by decide)
  have eg : fX4_slice_L66 FU (cs_d_sizes c) 0 = _ := eg
  obtain ⟨kd', ek, hkd⟩ := m_gone_L 3 0 FU (ms_keptDeeds d) (fun x hx => absurd hx (Nat.not_lt_zero x)) (by omega) (by decide)
  have ek : fX5_slice_L61 FU (ms_keptDeeds d) 0 = _ := ek
  have emk : fX2_make 160 4 40 (cs_d_items c) dsz' 3 0 0 = some (cs_d_items c, upd dsz' 3 (nI 0)) := by
    have e : fX2_make 160 4 (nI 40) (cs_d_items c) dsz' (nI 3) (nI 0) 0 = _ := s_make (m := 4) (N := 160) (w := 40) (x := 0) (by decide) (by decide) (by decide) (r := 3) (by decide) (n := 0) (by decide) (by decide) (by decide)
    rw [fill0] at e
    exact e
  have e1 : ald 35 now' 1 = some (nI k') := by rw [r35_1 hn, hP.1.1]
  have w4 : fX4_slice (cs_finding c) (cs_t_items c) (cs_t_sizes c) (cs_d_items c) (cs_d_sizes c) (cs_st_size c) (cs_st_need c) (cs_st_lifted c) (cs_st_licked c) (cs_st_morning c) (cs_st_tally c) (cs_st_kinds c) (cs_st_places c) (cs_st_lengths c) (cs_st_downs c) (cs_st_covers c) (cs_sl_size c) (cs_sl_need c) (cs_sl_lifted c) (cs_sl_licked c) (cs_sl_morning c) (cs_sl_tally c) (cs_sl_kinds c) (cs_sl_places c) (cs_sl_lengths c) (cs_sl_downs c) (cs_sl_covers c) (cs_as_size c) (cs_as_need c) (cs_as_lifted c) (cs_as_licked c) (cs_as_morning c) (cs_as_tally c) (cs_as_kinds c) (cs_as_places c) (cs_as_lengths c) (cs_as_downs c) (cs_as_covers c) (cs_text c) (cs_place c) (cs_findings c) (nI t) = some (nI k', cs_finding c, cs_d_items c, upd dsz' 3 (nI 0), nI k', nI (v 0), 0, 0, 0, 0, k1, p1, l1, d1, v1, nI k', nI (v 0), 0, 0, 0, 0, k2, p2, l2, d2, v2, nI k', nI (v 0), 0, 0, 0, 0, kn, pls, ln, dn, cv, nI t, pl, cs_findings c) := by unfold fX4_slice; rw [(txt_in t ht).1, bd1_s, if_neg one_ne, em, bd1_s, if_pos rfl, e4, bd14_s, if_pos rfl, et1, bd11_s, et2, bd11_s, eg, bd1_s, emk, bd2_s]
  have w5 : fX5_slice (ms_deeds d) (ms_finding d) (ms_m_at d) (ms_wrong d) (ms_textSize d) (ms_texts d) (ms_now d) (ms_draft d) (ms_keptDeeds d) (ms_findings d) (nI t) = some (nI k', 0, ms_finding d, at', -9, now', dr, kd', ms_findings d) := by unfold fX5_slice; rw [(txt_in t ht).2, bd1_s, if_neg one_ne, a4 ht, bd1_s, if_neg c9, e5, bd4_s, if_pos rfl, en, bd1_s, ek, bd1_s, e1, bd1_s]
  refine go2 (map_some w4) (map_some w5) rfl ⟨⟨q1, q2, q3, q4, q5⟩, hB, hC, k', v, fun _ => 0, 0, ?_⟩
  have hu3 : upd dsz' 3 (nI 0) 3 = nI 0 := upd_s _ _ _
  have hut : ∀ s, s < 3 → upd dsz' 3 (nI 0) s = -1 := fun s hs => (upd_n _ _ (by omega)).trans (hg s hs)
  exact ⟨hP.1, hS1, by decide, hu3, rfl, fun j hj => absurd hj (Nat.not_lt_zero j), hS2, hn, fun j hj => absurd hj (Nat.not_lt_zero j), fun s hs => Or.inl ⟨hut s hs, hkd s hs⟩⟩
