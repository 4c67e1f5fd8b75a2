/-! ===== pure: reads, first ===== -/
def paN (v : Nat → Nat) : Nat → (Nat → Nat)
  | 0 => v
  | k + 1 => paV (paN v k)
theorem paN_WF {v : Nat → Nat} {n B : Nat} (hw : WF v n B) : ∀ k, WF (paN v k) n (B + k)
  | 0 => hw
  | k + 1 => paV_WF (paN_WF hw k)
theorem m_tried {now : Nat → Int32} {v : Nat → Nat} (ha : AR now v) (tried : Nat → Int32) : ∃ t, fX5_copies 35 35 now tried 0 0 35 = some t ∧ AR t v := by
  obtain ⟨t, e, ht⟩ := m_copies (n0 := 35) (n1 := 35) (a := 0) (b := 0) (n := 35) now tried (by decide) (by decide) (by decide) (by decide) (by decide)
  refine ⟨t, e, fun x hx => ?_⟩
  rw [ht x, if_pos (by omega), show 0 + (x - 0) = x by omega]
  exact ha x hx
section
variable {size need lifted licked : Int32} {kinds lengths : Nat → Int32} {v : Nat → Nat} {n B : Nat}
theorem c_fallT_L (hw : WF v n B) (hB : B < 2 ^ 19) (hn : 0 < n) {k : Nat} (hk : k ≤ 100) : ∀ (m j fuel : Nat) (morning tally : Int32) (places downs covers : Nat → Int32), SL size need lifted licked morning tally kinds places lengths downs covers (paN v j) n → j + m = k → m < fuel →
    ∃ mo ta pl dn cv, fX3_fallTimes_L2 size need lifted licked kinds lengths (nI k) fuel morning tally places downs covers (nI j) = some (mo, ta, pl, dn, cv) ∧ SL size need lifted licked mo ta kinds pl lengths dn cv (paN v k) n := by
  intro m
  induction m with
  | zero =>
    intro j fuel morning tally places downs covers hs h1 h2
    obtain ⟨f, rfl⟩ : ∃ f, fuel = f + 1 := ⟨fuel - 1, by omega⟩
    have hj : j = k := by omega
    subst hj
    refine ⟨morning, tally, places, downs, covers, ?_, hs⟩
    show fX3_fallTimes_B2 _ _ _ _ _ _ _ _ _ _ _ _ _ _ = _
    unfold fX3_fallTimes_B2
    rw [if_pos (nI_le (Nat.le_refl j) (by omega))]
  | succ m ih =>
    intro j fuel morning tally places downs covers hs h1 h2
    obtain ⟨f, rfl⟩ : ∃ f, fuel = f + 1 := ⟨fuel - 1, by omega⟩
    obtain ⟨mo, ta, pl, dn, cv, e, hS⟩ := c_fall hs (paN_WF hw j) (by omega) hn
    obtain ⟨mo', ta', pl', dn', cv', e', hS'⟩ := ih (j + 1) f mo ta pl dn cv hS (by omega) (by omega)
    refine ⟨mo', ta', pl', dn', cv', ?_, hS'⟩
    show fX3_fallTimes_B2 _ _ _ _ _ _ _ _ _ _ _ _ _ _ = _
    unfold fX3_fallTimes_B2
    rw [if_neg (nI_ge (by omega) (by omega)), e, bd5_s, nI_1]
    exact e'
theorem c_fallT {morning tally : Int32} {places downs covers : Nat → Int32} (hs : SL size need lifted licked morning tally kinds places lengths downs covers v n) (hw : WF v n B) (hB : B < 2 ^ 19) (hn : 0 < n) {k : Nat} (hk : k ≤ 100) :
    ∃ mo ta pl dn cv, fX3_fallTimes size need lifted licked morning tally kinds places lengths downs covers (nI k) = some (mo, ta, pl, dn, cv) ∧ SL size need lifted licked mo ta kinds pl lengths dn cv (paN v k) n := by
  obtain ⟨mo, ta, pl, dn, cv, e, hS⟩ := c_fallT_L hw hB hn hk k 0 FU morning tally places downs covers hs (by omega) (Nat.lt_of_le_of_lt hk (by decide))
  have e : fX3_fallTimes_L2 size need lifted licked kinds lengths (nI k) FU morning tally places downs covers 0 = _ := e
  exact ⟨mo, ta, pl, dn, cv, by unfold fX3_fallTimes; rw [e, bd5_s], hS⟩
theorem m_reads_L (hw : WF v n B) (hB : B < 2 ^ 19) {k : Nat} (hk : k ≤ 100) : ∀ (m j fuel : Nat) (t : Nat → Int32), AR t (paN v j) → j + m = k → m < fuel → ∃ t', fX5_reads_L39 (nI k) fuel t (nI j) = some t' ∧ AR t' (paN v k) := by
  intro m
  induction m with
  | zero =>
    intro j fuel t ha h1 h2
    obtain ⟨f, rfl⟩ : ∃ f, fuel = f + 1 := ⟨fuel - 1, by omega⟩
    have hj : j = k := by omega
    subst hj
    refine ⟨t, ?_, ha⟩
    show fX5_reads_B39 _ _ _ _ = _
    unfold fX5_reads_B39
    rw [if_pos (nI_le (Nat.le_refl j) (by omega))]
  | succ m ih =>
    intro j fuel t ha h1 h2
    obtain ⟨f, rfl⟩ : ∃ f, fuel = f + 1 := ⟨fuel - 1, by omega⟩
    obtain ⟨t1, h1', e1⟩ := m_passes ha (paN_WF hw j) (by omega)
    obtain ⟨t2, e2, h2'⟩ := ih (j + 1) f t1 h1' (by omega) (by omega)
    refine ⟨t2, ?_, h2'⟩
    show fX5_reads_B39 _ _ _ _ = _
    unfold fX5_reads_B39
    rw [if_neg (nI_ge (by omega) (by omega)), e1, bd2_s, nI_1]
    exact e2
theorem liV_next {v : Nat → Nat} {n B : Nat} (hw : WF v n B) : liV (fallK v n) = liV (paV v) := (liV_pa hw.1 (fallK_WF hw n (Nat.le_refl n)).1).symm
theorem liV_lt (v : Nat → Nat) : liV v < 256 := lnsN_lt _ _
theorem fl_reads {morning tally : Int32} {places downs covers : Nat → Int32} (hs : SL size need lifted licked morning tally kinds places lengths downs covers v n) (hw : WF v n B) (hB : B ≤ 40) {now : Nat → Int32} (ha : AR now v) (asked as_size as_need as_lifted as_licked as_morning as_tally : Int32) (as_kinds as_places as_lengths as_downs as_covers tried : Nat → Int32) (x1 : Int32) :
    ∃ r a sz nd lf lk mo ta kn pl ln dn cv t, fX4_reads asked size need lifted licked morning tally kinds places lengths downs covers as_size as_need as_lifted as_licked as_morning as_tally as_kinds as_places as_lengths as_downs as_covers x1 = some (r, a, sz, nd, lf, lk, mo, ta, kn, pl, ln, dn, cv) ∧ fX5_reads asked now tried x1 = some (r, a, t) := by
  rcases spl x1 (k := 41) (by decide) with ⟨k, hk, rfl⟩ | hx
  rotate_left
  · have z5 : fX5_in0 x1 0 40 = some 0 := (inK0 (k := 40) (by decide) hx).2
    refine ⟨-1, asked, as_size, as_need, as_lifted, as_licked, as_morning, as_tally, as_kinds, as_places, as_lengths, as_downs, as_covers, tried, ?_, by unfold fX5_reads; rw [z5, bd1_s, if_pos rfl]⟩
    unfold fX4_reads
    by_cases c : x1 < 0
    · rw [if_pos c]
    · rcases hx with hx | hx
      · exact absurd hx c
      · have c2 : ¬ x1 ≤ 40 := i_gt (k := 40) (by decide) hx
        rw [if_neg c, if_neg c2]
  have z5 : fX5_in0 (nI k) 0 40 = some 1 := (inK1 (k := 40) (by decide) (by omega)).2
  have c1 : ¬ nI k < 0 := nI_pos (by omega)
  have c2 : nI k ≤ 40 := nI_le (b := 40) (by omega) (by decide)
  by_cases n0 : n = 0
  · exact ⟨_, _, _, _, _, _, _, _, _, _, _, _, _, _, by unfold fX4_reads; rw [if_neg c1, if_pos c2, if_pos (c_any0 hs n0)], by unfold fX5_reads; rw [z5, bd1_s, if_neg one_ne, m_any0 ha hw n0, bd1_s, if_pos rfl]⟩
  obtain ⟨k1, p1, l1, d1, v1, et, hT⟩ := c_take as_kinds as_places as_lengths as_downs as_covers (o_size := size) (o_need := need) (o_lifted := lifted) (o_licked := licked) (o_morning := morning) (o_tally := tally) (o_kinds := kinds) (o_places := places) (o_lengths := lengths) (o_downs := downs) (o_covers := covers)
  obtain ⟨mo, ta, pl, dn, cv, ef, hS⟩ := c_fallT (hT v n hw.2.1 hs) hw (by omega) (by omega) (k := k) (by omega)
  have el := c_linesNow hS (paN_WF hw k) (by omega)
  obtain ⟨t1, e1, h1⟩ := m_tried ha tried
  obtain ⟨t2, e2, h2⟩ := m_reads_L hw (by omega) (k := k) (by omega) k 0 FU t1 h1 (by omega) (Nat.lt_of_lt_of_le hk (by decide))
  have e2 : fX5_reads_L39 (nI k) FU t1 0 = some t2 := e2
  have eta : ta = nI (paN v k 3) := hS.2.2.2.2.2.1
  refine ⟨_, ta, _, _, _, _, _, _, _, _, _, _, _, t2, by unfold fX4_reads; rw [if_neg c1, if_pos c2, if_neg (c_any1 hs hw n0), et, bd11_s, ef, bd5_s, el, bd1_s], ?_⟩
  unfold fX5_reads
  rw [z5, bd1_s, if_neg one_ne, m_any1 ha hw n0, bd1_s, if_neg one_ne, e1, bd1_s, e2, bd1_s, r35_3 h2, bd1_s]
  unfold fX5_tells
  rw [bd2_s, m_linesIn h2 (paN_WF hw k), bd1_s, eta]
theorem first_L (hw : WF v n B) (hB : B < 2 ^ 19) (hn : 0 < n) {l : Nat} (hl : l < 8) : ∀ (m j fuel : Nat) (morning tally : Int32) (places downs covers t : Nat → Int32), SL size need lifted licked morning tally kinds places lengths downs covers (paN v j) n → AR t (paN v j) → j + m = 40 → m < fuel →
    (∃ r mo ta pl dn cv t', fX4_first_L37 size need lifted licked kinds lengths (nI l) fuel morning tally places downs covers (nI (j + 1)) = some (.inl (r, size, need, lifted, licked, mo, ta, kinds, pl, lengths, dn, cv)) ∧ fX5_first_L39 (nI l) fuel t (nI (j + 1)) = some (.inl (r, t'))) ∨
    (∃ mo ta pl dn cv t', fX4_first_L37 size need lifted licked kinds lengths (nI l) fuel morning tally places downs covers (nI (j + 1)) = some (.inr (mo, ta, pl, dn, cv)) ∧ fX5_first_L39 (nI l) fuel t (nI (j + 1)) = some (.inr t')) := by
  intro m
  induction m with
  | zero =>
    intro j fuel morning tally places downs covers t hs ha h1 h2
    obtain ⟨f, rfl⟩ : ∃ f, fuel = f + 1 := ⟨fuel - 1, by omega⟩
    have hj : j = 40 := by omega
    subst hj
    refine Or.inr ⟨morning, tally, places, downs, covers, t, ?_, ?_⟩
    · show fX4_first_B37 _ _ _ _ _ _ _ _ _ _ _ _ _ _ = _
      unfold fX4_first_B37
      rw [if_pos (by decide)]
    · show fX5_first_B39 _ _ _ _ = _
      unfold fX5_first_B39
      rw [if_pos (by decide)]
  | succ m ih =>
    intro j fuel morning tally places downs covers t hs ha h1 h2
    obtain ⟨f, rfl⟩ : ∃ f, fuel = f + 1 := ⟨fuel - 1, by omega⟩
    have hwj := paN_WF hw j
    have hwj' := paN_WF hw (j + 1)
    obtain ⟨mo, ta, pl, dn, cv, e, hS⟩ := c_fall hs hwj (by omega) hn
    obtain ⟨t1, ht1, e1⟩ := m_passes ha hwj (by omega)
    have el := c_linesNow hS hwj' hn
    rw [liV_next hwj] at e1
    have hlt : liV (paN v (j + 1)) < 256 := liV_lt _
    have eb : fX4_bit (nI (liV (paN v (j + 1)))) (nI l) = some (nI (liV (paN v (j + 1)) / 2 ^ l % 2)) := by
      unfold fX4_bit
      rw [n_bit (by omega) (by omega)]
    have eh : fX5_has (nI (liV (paN v (j + 1)))) (nI l) = some (nI (liV (paN v (j + 1)) / 2 ^ l % 2)) := m_has (by omega) (by omega)
    have c4 : ¬ (40 : Int32) < nI (j + 1) := nI_nlt (a := 40) (b := j + 1) (by omega) (by decide)
    have c5 : ¬ (41 : Int32) ≤ nI (j + 1) := nI_ge (a := j + 1) (b := 41) (by omega) (by decide)
    have u4 : fX4_first_L37 size need lifted licked kinds lengths (nI l) (f + 1) morning tally places downs covers (nI (j + 1)) = fX4_first_B37 size need lifted licked kinds lengths (nI l) (fX4_first_L37 size need lifted licked kinds lengths (nI l) f) morning tally places downs covers (nI (j + 1)) := rfl
    have u5 : fX5_first_L39 (nI l) (f + 1) t (nI (j + 1)) = fX5_first_B39 (nI l) (fX5_first_L39 (nI l) f) t (nI (j + 1)) := rfl
    rw [u4, u5]
    unfold fX4_first_B37 fX5_first_B39
    have eb' : fX4_bit (nI (liV (paV (paN v j)))) (nI l) = some (nI (liV (paN v (j + 1)) / 2 ^ l % 2)) := eb
    rw [if_neg c4, if_neg c5, e, e1, bd5_s, bd2_s, el, bd1_s, eb', bd1_s]
    have eh' : fX5_has (nI (liV (paV (paN v j)))) (nI l) = some (nI (liV (paN v (j + 1)) / 2 ^ l % 2)) := eh
    rw [eh', bd1_s]
    by_cases c : liV (paN v (j + 1)) / 2 ^ l % 2 = 1
    · rw [if_pos (by rw [c]; rfl), if_neg (by rw [c]; decide)]
      exact Or.inl ⟨_, _, _, _, _, _, _, rfl, rfl⟩
    · have c0 : liV (paN v (j + 1)) / 2 ^ l % 2 = 0 := by omega
      rw [if_neg (by rw [c0]; decide), if_pos (by rw [c0]; rfl), nI_1]
      exact ih (j + 1) f mo ta pl dn cv t1 hS ht1 (by omega) (by omega)
theorem fl_first {morning tally : Int32} {places downs covers : Nat → Int32} (hs : SL size need lifted licked morning tally kinds places lengths downs covers v n) (hw : WF v n B) (hB : B ≤ 40) {now : Nat → Int32} (ha : AR now v) (as_size as_need as_lifted as_licked as_morning as_tally : Int32) (as_kinds as_places as_lengths as_downs as_covers tried : Nat → Int32) (x1 : Int32) :
    ∃ r sz nd lf lk mo ta kn pl ln dn cv t, fX4_first size need lifted licked morning tally kinds places lengths downs covers as_size as_need as_lifted as_licked as_morning as_tally as_kinds as_places as_lengths as_downs as_covers x1 = some (r, sz, nd, lf, lk, mo, ta, kn, pl, ln, dn, cv) ∧ fX5_first now tried x1 = some (r, t) := by
  rcases spl x1 (k := 8) (by decide) with ⟨l, hl, rfl⟩ | hx
  rotate_left
  · exact ⟨_, _, _, _, _, _, _, _, _, _, _, _, _, by unfold fX4_first; rw [(in8_0 hx).1, bd1_s, if_pos rfl], by unfold fX5_first; rw [(in8_0 hx).2, bd1_s, if_pos rfl]⟩
  by_cases n0 : n = 0
  · exact ⟨_, _, _, _, _, _, _, _, _, _, _, _, _, by unfold fX4_first; rw [(in8_1 hl).1, bd1_s, if_neg one_ne, if_pos (c_any0 hs n0)], by unfold fX5_first; rw [(in8_1 hl).2, bd1_s, if_neg one_ne, m_any0 ha hw n0, bd1_s, if_pos rfl]⟩
  obtain ⟨k1, p1, l1, d1, v1, et, hT⟩ := c_take as_kinds as_places as_lengths as_downs as_covers (o_size := size) (o_need := need) (o_lifted := lifted) (o_licked := licked) (o_morning := morning) (o_tally := tally) (o_kinds := kinds) (o_places := places) (o_lengths := lengths) (o_downs := downs) (o_covers := covers)
  obtain ⟨t1, e1, h1⟩ := m_tried ha tried
  rcases first_L hw (by omega) (by omega) hl 40 0 FU morning tally p1 d1 v1 t1 (hT v n hw.2.1 hs) h1 (by omega) (by decide) with ⟨r, mo, ta, pl, dn, cv, t', q4, q5⟩ | ⟨mo, ta, pl, dn, cv, t', q4, q5⟩
  · have q4 : fX4_first_L37 size need lifted licked k1 l1 (nI l) FU morning tally p1 d1 v1 1 = _ := q4
    have q5 : fX5_first_L39 (nI l) FU t1 1 = _ := q5
    exact ⟨_, _, _, _, _, _, _, _, _, _, _, _, _, by unfold fX4_first; rw [(in8_1 hl).1, bd1_s, if_neg one_ne, if_neg (c_any1 hs hw n0), et, bd11_s, q4, st5_l], by unfold fX5_first; rw [(in8_1 hl).2, bd1_s, if_neg one_ne, m_any1 ha hw n0, bd1_s, if_neg one_ne, e1, bd1_s, q5, st1_l]⟩
  · have q4 : fX4_first_L37 size need lifted licked k1 l1 (nI l) FU morning tally p1 d1 v1 1 = _ := q4
    have q5 : fX5_first_L39 (nI l) FU t1 1 = _ := q5
    exact ⟨_, _, _, _, _, _, _, _, _, _, _, _, _, by unfold fX4_first; rw [(in8_1 hl).1, bd1_s, if_neg one_ne, if_neg (c_any1 hs hw n0), et, bd11_s, q4, st5_r], by unfold fX5_first; rw [(in8_1 hl).2, bd1_s, if_neg one_ne, m_any1 ha hw n0, bd1_s, if_neg one_ne, e1, bd1_s, q5, st1_r]⟩
end
theorem step_reads : Step_reads Rel := by
  intro c d h x1
  obtain ⟨⟨a1, a2, a3, a4, a5⟩, hB, hC, n, V, q, k, hD⟩ := h
  obtain ⟨hw, hs, ha, hk, -⟩ := hD.get
  obtain ⟨r, a, sz, nd, lf, lk, mo, ta, kn, pl, ln, dn, cv, t, e4, e5⟩ := fl_reads hs hw hk ha (ms_asked d) (cs_as_size c) (cs_as_need c) (cs_as_lifted c) (cs_as_licked c) (cs_as_morning c) (cs_as_tally c) (cs_as_kinds c) (cs_as_places c) (cs_as_lengths c) (cs_as_downs c) (cs_as_covers c) (ms_tried d) x1
  rw [← a2] at e4
  exact go2 (map_some e4) (map_some e5) rfl ⟨⟨a1, rfl, a3, a4, a5⟩, hB, hC, n, V, q, k, hD⟩
theorem step_first : Step_first Rel := by
  intro c d h x1
  obtain ⟨hA, hB, hC, n, V, q, k, hD⟩ := h
  obtain ⟨hw, hs, ha, hk, -⟩ := hD.get
  obtain ⟨r, sz, nd, lf, lk, mo, ta, kn, pl, ln, dn, cv, t, e4, e5⟩ := fl_first hs hw hk ha (cs_as_size c) (cs_as_need c) (cs_as_lifted c) (cs_as_licked c) (cs_as_morning c) (cs_as_tally c) (cs_as_kinds c) (cs_as_places c) (cs_as_lengths c) (cs_as_downs c) (cs_as_covers c) (ms_tried d) x1
  exact go2 (map_some e4) (map_some e5) rfl ⟨hA, hB, hC, n, V, q, k, hD⟩
