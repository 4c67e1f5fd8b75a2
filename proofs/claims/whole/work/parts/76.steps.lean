/-! ===== pure: the steps morning, shift, turn, lift, lick ===== -/
theorem RelD.rd {c : CS} {d : MS} {n : Nat} {V q : Nat → Nat} {k : Nat} (h : RelD c d n V q k) : RD (SL (cs_st_size c) (cs_st_need c) (cs_st_lifted c) (cs_st_licked c) (cs_st_morning c) (cs_st_tally c) (cs_st_kinds c) (cs_st_places c) (cs_st_lengths c) (cs_st_downs c) (cs_st_covers c) V n) (fun u => SL (cs_sl_size c) (cs_sl_need c) (cs_sl_lifted c) (cs_sl_licked c) (cs_sl_morning c) (cs_sl_tally c) (cs_sl_kinds c) (cs_sl_places c) (cs_sl_lengths c) (cs_sl_downs c) (cs_sl_covers c) u n) (cs_d_sizes c) (cs_d_items c) (ms_deeds d) (ms_now d) (ms_past d) (ms_keptDeeds d) (ms_kept d) (ms_keptPast d) n V q k := h
/-- what a step needs of the slice -/
theorem RelD.get {c : CS} {d : MS} {n : Nat} {V q : Nat → Nat} {k : Nat} (h : RelD c d n V q k) : WF (rpV q V k) n k ∧ SL (cs_sl_size c) (cs_sl_need c) (cs_sl_lifted c) (cs_sl_licked c) (cs_sl_morning c) (cs_sl_tally c) (cs_sl_kinds c) (cs_sl_places c) (cs_sl_lengths c) (cs_sl_downs c) (cs_sl_covers c) (rpV q V k) n ∧ AR (ms_now d) (rpV q V k) ∧ k ≤ 40 ∧ cs_d_sizes c 3 = nI k ∧ ms_deeds d = nI k ∧ n ≤ 6 :=
  ⟨rpV_WF h.1 k (fun j hj => (h.2.2.2.2.2.1 j hj).2), h.2.2.2.2.2.2.1, h.2.2.2.2.2.2.2.1, h.2.2.1, h.2.2.2.1, h.2.2.2.2.1, h.1.2.1⟩
theorem m_isPeel1 {w : Nat → Int32} {v : Nat → Nat} {n B i : Nat} (h : AR w v) (hw : WF v n B) (hi : i < n) : fX5_isPeel w (nI i) = some 1 := by
  have := hw.2.1
  unfold fX5_isPeel
  rw [r35_1 h, bd1_s, hw.1, in0_1 (by omega) hi, bd1_s]
  rfl
theorem m_isPeel0 {w : Nat → Int32} {v : Nat → Nat} {n B : Nat} {x : Int32} (h : AR w v) (hw : WF v n B) (hx : x < 0 ∨ nI n ≤ x) : fX5_isPeel w x = some 0 := by
  have := hw.2.1
  unfold fX5_isPeel
  rw [r35_1 h, bd1_s, hw.1, in0_0 (by omega) hx, bd1_s]
  rfl
theorem m_isAny {w : Nat → Int32} {v : Nat → Nat} {n B : Nat} (h : AR w v) (hw : WF v n B) : fX5_isAny w = some (if n = 0 then 0 else 1) := by
  have := hw.2.1
  unfold fX5_isAny
  rw [r35_1 h, bd1_s, hw.1]
  by_cases c : n = 0
  · subst c; rfl
  · rw [if_neg (nI_nle (by omega) (by omega)), if_neg c]
theorem c_hasRoom {dsz : Nat → Int32} {k : Nat} (hk : k ≤ 40) (h : dsz 3 = nI k) : fX4_hasRoom dsz 1 = some (if k = 40 then 0 else 1) := by
  unfold fX4_hasRoom
  have e : fX2_sizeOf 4 dsz 3 = some (dsz 3) := s_sizeOf (m := 4) (r := 3) (by decide) (by decide)
  rw [e, bd1_s, h, nI_1]
  by_cases c : k = 40
  · subst c; rfl
  · have c1 : ¬ (40 : Int32) < nI (k + 1) := nI_nlt (a := 40) (b := k + 1) (by omega) (by decide)
    rw [if_neg c1, if_neg c]
theorem d40 {k : Nat} (hk : k ≤ 40) (h : ¬ k = 40) : ¬ nI k = 40 := fun q => h ((nI_eq (b := 40) (by omega) (by decide)).mp q)
theorem in16 : ∀ p, p < 16 → fX4_isIn (nI p) 16 = some 1 ∧ fX5_in0 (nI p) 0 15 = some 1 := by decide
theorem in16_0 {x : Int32} (h : x < 0 ∨ nI 16 ≤ x) : fX4_isIn x 16 = some 0 ∧ fX5_in0 x 0 15 = some 0 := by
  unfold fX4_isIn
  rw [in0_eq]
  rcases h with h | h
  · rw [if_pos h, if_pos h]; exact ⟨rfl, rfl⟩
  · have h5 : (15 : Int32) < x := i5_lt (k := 15) (by decide) h
    have h6 : (16 : Int32) ≤ x := h
    by_cases h0 : x < 0
    · rw [if_pos h0, if_pos h0]; exact ⟨rfl, rfl⟩
    · rw [if_neg h0, if_pos h6, if_neg h0, if_pos h5]; exact ⟨rfl, rfl⟩
theorem k20 {k : Nat} (h : k ≤ 40) : k < 2 ^ 20 := Nat.lt_of_le_of_lt h (by decide)
theorem step_morning : Step_morning Rel := by
  intro c d h
  obtain ⟨hA, hB, hC, n, V, q, k, hD⟩ := id h
  obtain ⟨hw, hs, ha, hk, hd, he, hn6⟩ := hD.get
  have hany := m_isAny ha hw
  by_cases n0 : n = 0
  · subst n0
    have c0 : cs_sl_size c = 0 := hs.1
    exact go2 (map_some (by unfold fX4_morning; rw [if_pos c0])) (map_some (by unfold fX5_morning; rw [hany, if_pos rfl, bd1_s, if_pos rfl])) (by rfl) h
  have c0 : ¬ cs_sl_size c = 0 := by rw [hs.1]; exact nI_ne0 (by omega) (by omega)
  by_cases k40 : k = 40
  · have e40 : ms_deeds d = 40 := by rw [he, k40]; rfl
    exact go2 (map_some (by unfold fX4_morning; rw [if_neg c0, c_hasRoom hk hd, if_pos k40, bd1_s, if_pos rfl])) (map_some (by unfold fX5_morning; rw [hany, if_neg n0, bd1_s, if_neg one_ne, if_pos e40])) (by rfl) h
  have e40 : ¬ ms_deeds d = 40 := by rw [he]; exact d40 hk k40
  obtain ⟨lf, lk, mo, ta, pl, dn, cv, ea, hS⟩ := c_act hs hw (k20 hk) (what := 0) (i := 0) (place := 0) (by decide) (by omega) (by decide) (dit := cs_d_items c) (by omega) hd
  have ea : fX4_act (cs_d_items c) (cs_d_sizes c) (cs_sl_size c) (cs_sl_need c) (cs_sl_lifted c) (cs_sl_licked c) (cs_sl_morning c) (cs_sl_tally c) (cs_sl_kinds c) (cs_sl_places c) (cs_sl_lengths c) (cs_sl_downs c) (cs_sl_covers c) 0 0 0 = _ := ea
  have hw' := spV_WF (what := 0) (i := 0) (place := 0) hw (by omega) (by decide)
  have el := c_linesNow hS hw' (by omega)
  obtain ⟨now', hn', en⟩ := m_passes ha hw (k20 hk)
  obtain ⟨past', ep, hp⟩ := m_notes (now := ms_now d) (past := ms_past d) (k := k) (by omega)
  have ep : fX5_notes (ms_deeds d) (ms_now d) (ms_past d) = some (nI (k + 1), past') := by rw [he]; exact ep
  have esp : spV 0 0 0 (rpV q V k) = paV (rpV q V k) := if_pos rfl
  refine go2 (map_some (by unfold fX4_morning; rw [if_neg c0, c_hasRoom hk hd, if_neg k40, bd1_s, if_neg one_ne, ea, bd9_s, el, bd1_s])) (map_some (by unfold fX5_morning; rw [hany, if_neg n0, bd1_s, if_neg one_ne, if_neg e40, ep, bd2_s, en, bd2_s])) ?_ ?_
  · show nI (liV (spV 0 0 0 (rpV q V k))) = nI (liV (fallK (rpV q V k) n))
    rw [esp, liV_pa hw.1 (fallK_WF hw n (Nat.le_refl n)).1]
  · exact ⟨hA, hB, hC, n, V, _, k + 1, RD.act hD.rd (Ssl' := fun u => SL (cs_sl_size c) (cs_sl_need c) lf lk mo ta (cs_sl_kinds c) pl (cs_sl_lengths c) dn cv u n) (by omega) (what := 0) (i := 0) (place := 0) (by decide) (by omega) (by decide) hS (by rw [esp]; exact hn') hp⟩
