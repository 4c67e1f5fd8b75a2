/-! ===== pure: the steps of rows and texts ===== -/
theorem rw_sep {w r r' i : Nat} (h : r' ≠ r) (hi : i < w) : w * r' + i < w * r ∨ w * r + w ≤ w * r' + i := by
  rcases Nat.lt_or_gt_of_ne h with q | q
  · have : w * r' + w ≤ w * r := by rw [← Nat.mul_succ]; exact Nat.mul_le_mul_left w q
    omega
  · have : w * r + w ≤ w * r' := by rw [← Nat.mul_succ]; exact Nat.mul_le_mul_left w q
    omega
section
variable {m w : Nat} {ok : Int32 → Prop} {sizes items rsz rit : Nat → Int32}
theorem RW.make (h : RW m w ok sizes items rsz rit) {r n : Nat} {x : Int32} (hn : n ≤ w) (hx : ok x) : RW m w ok (upd sizes r (nI n)) (fillN items (w * r) n x) (upd rsz r (nI n)) (fillN rit (w * r) w x) := by
  intro r' hr'
  by_cases e : r' = r
  · subst e
    refine Or.inr ⟨n, hn, upd_s _ _ _, upd_s _ _ _, fun i hi => ?_⟩
    unfold fillN
    rw [if_pos (by omega), if_pos (by omega)]
    exact ⟨rfl, hx⟩
  · rw [upd_n _ _ e, upd_n _ _ e]
    rcases h r' hr' with q | ⟨k, hk, s1, s2, hi⟩
    · exact Or.inl q
    · refine Or.inr ⟨k, hk, s1, s2, fun i hik => ?_⟩
      have := rw_sep (w := w) (i := i) e (by omega)
      unfold fillN
      rw [if_neg (by omega), if_neg (by omega)]
      exact hi i hik
theorem RW.set (h : RW m w ok sizes items rsz rit) {r i : Nat} {x : Int32} (hi : i < w) (hx : ok x) : RW m w ok sizes (upd items (w * r + i) x) rsz (upd rit (w * r + i) x) := by
  intro r' hr'
  rcases h r' hr' with q | ⟨k, hk, s1, s2, hq⟩
  · exact Or.inl q
  · refine Or.inr ⟨k, hk, s1, s2, fun j hj => ?_⟩
    by_cases e : w * r' + j = w * r + i
    · rw [e, upd_s, upd_s]
      exact ⟨rfl, hx⟩
    · rw [upd_n _ _ e, upd_n _ _ e]
      exact hq j hj
theorem RW.tear (h : RW m w ok sizes items rsz rit) {r : Nat} : RW m w ok (upd sizes r (-1)) items (upd rsz r (-9)) rit := by
  intro r' hr'
  by_cases e : r' = r
  · subst e
    exact Or.inl ⟨upd_s _ _ _, upd_s _ _ _⟩
  · rw [upd_n _ _ e, upd_n _ _ e]
    exact h r' hr'
end
theorem m_row_L {r : Nat} (hr : r < 6) (rows0 : Nat → Int32) : ∀ (q i fuel : Nat), i + q = 40 → q < fuel → fX5_row_L34 (nI r) fuel (fillN rows0 (40 * r) i 0) (nI i) = some (fillN rows0 (40 * r) 40 0) := by
  intro q
  induction q with
  | zero =>
    intro i fuel h1 h2
    obtain ⟨f, rfl⟩ : ∃ f, fuel = f + 1 := ⟨fuel - 1, by omega⟩
    have hi : i = 40 := by omega
    subst hi
    show fX5_row_B34 _ _ _ _ = _
    unfold fX5_row_B34
    exact if_pos (nI_le (Nat.le_refl 40) (by decide))
  | succ q ih =>
    intro i fuel h1 h2
    obtain ⟨f, rfl⟩ : ∃ f, fuel = f + 1 := ⟨fuel - 1, by omega⟩
    show fX5_row_B34 _ _ _ _ = _
    unfold fX5_row_B34
    have c1 : ¬ (40 : Int32) ≤ nI i := nI_ge (a := i) (b := 40) (by omega) (by decide)
    have e1 : (40 : Int32) * nI r + nI i = nI (40 * r + i) := by
      show nI 40 * nI r + nI i = _
      rw [nI_mul, nI_add]
    rw [if_neg c1, e1, ast_nI (by omega) (by decide), bd1_s, nI_1]
    have e : upd (fillN rows0 (40 * r) i 0) (40 * r + i) 0 = fillN rows0 (40 * r) (i + 1) 0 := by
      funext j
      by_cases ej : j = 40 * r + i
      · subst ej
        rw [upd_s]
        unfold fillN
        rw [if_pos (by omega)]
      · rw [upd_n _ _ ej]
        unfold fillN
        by_cases c : 40 * r ≤ j ∧ j < 40 * r + i
        · rw [if_pos c, if_pos (by omega)]
        · rw [if_neg c, if_neg (by omega)]
    rw [e]
    exact ih (i + 1) f (by omega) (by omega)
theorem m_text_L {r : Nat} (hr : r < 4) (rows0 : Nat → Int32) : ∀ (q i fuel : Nat), i + q = 60 → q < fuel → fX5_text_L34 (nI r) fuel (fillN rows0 (60 * r) i 32) (nI i) = some (fillN rows0 (60 * r) 60 32) := by
  intro q
  induction q with
  | zero =>
    intro i fuel h1 h2
    obtain ⟨f, rfl⟩ : ∃ f, fuel = f + 1 := ⟨fuel - 1, by omega⟩
    have hi : i = 60 := by omega
    subst hi
    show fX5_text_B34 _ _ _ _ = _
    unfold fX5_text_B34
    exact if_pos (nI_le (Nat.le_refl 60) (by decide))
  | succ q ih =>
    intro i fuel h1 h2
    obtain ⟨f, rfl⟩ : ∃ f, fuel = f + 1 := ⟨fuel - 1, by omega⟩
    show fX5_text_B34 _ _ _ _ = _
    unfold fX5_text_B34
    have c1 : ¬ (60 : Int32) ≤ nI i := nI_ge (a := i) (b := 60) (by omega) (by decide)
    have e1 : (60 : Int32) * nI r + nI i = nI (60 * r + i) := by
      show nI 60 * nI r + nI i = _
      rw [nI_mul, nI_add]
    rw [if_neg c1, e1, ast_nI (by omega) (by decide), bd1_s, nI_1]
    have e : upd (fillN rows0 (60 * r) i 32) (60 * r + i) 32 = fillN rows0 (60 * r) (i + 1) 32 := by
      funext j
      by_cases ej : j = 60 * r + i
      · subst ej
        rw [upd_s]
        unfold fillN
        rw [if_pos (by omega)]
      · rw [upd_n _ _ ej]
        unfold fillN
        by_cases c : 60 * r ≤ j ∧ j < 60 * r + i
        · rw [if_pos c, if_pos (by omega)]
        · rw [if_neg c, if_neg (by omega)]
    rw [e]
    exact ih (i + 1) f (by omega) (by omega)
theorem fill0 (f : Nat → Int32) (a : Nat) (x : Int32) : fillN f a 0 x = f := by
  funext j
  unfold fillN
  rw [if_neg (by omega)]
theorem i_gt {x : Int32} {k : Nat} (hk : k + 1 < 2 ^ 31) (h : nI (k + 1) ≤ x) : ¬ x ≤ nI k := by
  rw [Int32.not_le]
  exact i5_lt hk h
theorem go2 {R : Type} {o4 : Option (R × CS)} {o5 : Option (R × MS)} {r r' : R} {c' : CS} {d' : MS} (e4 : o4 = some (r, c')) (e5 : o5 = some (r', d')) (hr : r = r') (hR : Rel c' d') : ∃ r c' d', o4 = some (r, c') ∧ o5 = some (r, d') ∧ Rel c' d' := by
  subst hr
  exact ⟨r, c', d', e4, e5, hR⟩
theorem step_row : Step_row Rel := by
  intro c d h x1 x2
  obtain ⟨⟨a1, a2, a3, a4, a5⟩, hB, hC, hD⟩ := id h
  rcases spl x1 (k := 6) (by decide) with ⟨r, hr, rfl⟩ | hout
  · by_cases h0 : x2 < 0
    · have c1 : x2 ≤ 40 := by
        rw [Int32.lt_iff_toInt_lt] at h0
        rw [Int32.le_iff_toInt_le]
        have e0 : (0 : Int32).toInt = 0 := by decide
        have e1 : (40 : Int32).toInt = 40 := by decide
        omega
      have c2 : ¬ 0 ≤ x2 := by rw [Int32.not_le]; exact h0
      have f4 : fX4_find (cs_findings c) 5 = _ := (find_n (cs_findings c) (j := 5) (by decide) (by decide)).1
      have f5 : fX5_found0 (ms_findings d) 5 = _ := (find_n (ms_findings d) (j := 5) (by decide) (by decide)).2
      refine go2 (map_some (by unfold fX4_row; rw [(row_in r hr).1, bd1_s, if_neg one_ne, if_pos c1, if_neg c2, f4, bd3_s])) (map_some (by unfold fX5_row; rw [(row_in r hr).2, bd1_s, if_neg one_ne, if_pos c1, if_neg c2, f5, bd3_s])) (by rfl) ?_
      exact ⟨⟨rfl, a2, a3, a4, upd_eq6 a5 (by decide)⟩, hB, hC, hD⟩
    · obtain ⟨k, hk, rfl⟩ := nI_of h0
      have c2 : 0 ≤ nI k := nI_pos' hk
      by_cases h40 : k ≤ 40
      · have c1 : nI k ≤ 40 := nI_le (a := k) (b := 40) h40 (by decide)
        have e4 : fX2_make 240 6 40 (cs_r_items c) (cs_r_sizes c) (nI r) (nI k) 0 = _ := s_make (m := 6) (N := 240) (w := 40) (by decide) (by decide) (by decide) hr h40 (by omega) (by decide)
        have e5 : fX5_row_L34 (nI r) FU (ms_rows d) 0 = some (fillN (ms_rows d) (40 * r) 40 0) := by
          have := m_row_L hr (ms_rows d) 40 0 FU rfl (by decide)
          rw [fill0] at this
          exact this
        refine go2 (map_some (by unfold fX4_row; rw [(row_in r hr).1, bd1_s, if_neg one_ne, if_pos c1, if_pos c2, e4, bd2_s])) (map_some (by unfold fX5_row; rw [(row_in r hr).2, bd1_s, if_neg one_ne, if_pos c1, if_pos c2, t6 hr, bd1_s, e5, bd1_s])) (by rfl) ?_
        exact ⟨⟨a1, a2, a3, a4, a5⟩, RW.make hB h40 trivial, hC, hD⟩
      · have c1 : ¬ nI k ≤ 40 := nI_ge (a := 40) (b := k) (by omega) hk
        exact go2 (map_some (by unfold fX4_row; rw [(row_in r hr).1, bd1_s, if_neg one_ne, if_neg c1])) (map_some (by unfold fX5_row; rw [(row_in r hr).2, bd1_s, if_neg one_ne, if_neg c1])) (by rfl) h
  · exact go2 (map_some (by unfold fX4_row; rw [(row_out hout).1, bd1_s, if_pos rfl])) (map_some (by unfold fX5_row; rw [(row_out hout).2, bd1_s, if_pos rfl])) (by rfl) h
