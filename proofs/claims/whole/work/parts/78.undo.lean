/-! ===== pure: undo, keep, on ===== -/
theorem inK0 {x : Int32} {k : Nat} (hk : k + 1 < 2 ^ 31) (h : x < 0 ∨ nI (k + 1) ≤ x) : fX4_isIn x (nI (k + 1)) = some 0 ∧ fX5_in0 x 0 (nI k) = some 0 := by
  unfold fX4_isIn
  rw [in0_eq]
  by_cases h0 : x < 0
  · rw [if_pos h0, if_pos h0]; exact ⟨rfl, rfl⟩
  · rcases h with h | h
    · exact absurd h h0
    · rw [if_neg h0, if_pos h, if_neg h0, if_pos (i5_lt hk h)]; exact ⟨rfl, rfl⟩
theorem inK1 {j k : Nat} (hk : k + 1 < 2 ^ 31) (hj : j ≤ k) : fX4_isIn (nI j) (nI (k + 1)) = some 1 ∧ fX5_in0 (nI j) 0 (nI k) = some 1 := by
  unfold fX4_isIn
  rw [in0_eq, if_neg (nI_pos (by omega)), if_neg (nI_ge (by omega) (by omega)), if_neg (nI_pos (by omega)), if_neg (nI_nlt hj (by omega))]
  exact ⟨rfl, rfl⟩
theorem nI_subneg {a b : Nat} (h : a < b) (hb : b < 2 ^ 31) : nI a - nI b < 0 := by
  rw [Int32.lt_iff_toInt_lt, Int32.toInt_sub, nI_toInt (by omega), nI_toInt hb, Int.bmod_eq_of_le (by omega) (by omega)]
  have : (0 : Int32).toInt = 0 := by decide
  omega
section
variable {st_size st_need st_lifted st_licked st_morning st_tally : Int32} {st_kinds st_places st_lengths st_downs st_covers : Nat → Int32} {V q : Nat → Nat} {n : Nat} {dsz dit : Nat → Int32}
theorem c_anew_L {size need : Int32} {kinds lengths : Nat → Int32} (hw : WF V n 0) {k : Nat} (hk : k ≤ 40) (hd : dsz 3 = nI k) (hq : ∀ j, j < k → dit (120 + j) = nI (q j) ∧ okD n (q j)) : ∀ (m j fuel : Nat) (lifted licked morning tally : Int32) (places downs covers : Nat → Int32), SL size need lifted licked morning tally kinds places lengths downs covers (rpV q V j) n → j + m = k → m < fuel →
    ∃ lf lk mo ta pl dn cv, fX4_doAnew_L22 dit dsz size need kinds lengths (nI k) fuel lifted licked morning tally places downs covers (nI j) = some (lf, lk, mo, ta, pl, dn, cv) ∧ SL size need lf lk mo ta kinds pl lengths dn cv (rpV q V k) n := by
  intro m
  induction m with
  | zero =>
    intro j fuel lifted licked morning tally places downs covers hs h1 h2
    obtain ⟨f, rfl⟩ : ∃ f, fuel = f + 1 := ⟨fuel - 1, by omega⟩
    have hj : j = k := by omega
    subst hj
    refine ⟨lifted, licked, morning, tally, places, downs, covers, ?_, hs⟩
    show fX4_doAnew_B22 _ _ _ _ _ _ _ _ _ _ _ _ _ _ _ _ = _
    unfold fX4_doAnew_B22
    rw [if_pos (nI_le (Nat.le_refl j) (by omega))]
  | succ m ih =>
    intro j fuel lifted licked morning tally places downs covers hs h1 h2
    obtain ⟨f, rfl⟩ : ∃ f, fuel = f + 1 := ⟨fuel - 1, by omega⟩
    obtain ⟨ei, hok⟩ := hq j (by omega)
    have hwj : WF (rpV q V j) n j := rpV_WF hw j (fun y hy => (hq y (by omega)).2)
    have h480 := hok.1
    obtain ⟨lf, lk, mo, ta, pl, dn, cv, ep, hS⟩ := c_perform hs hwj (by omega) (what := q j / 96) (i := q j / 16 % 6) (place := q j % 16) (by omega) hok.2 (by omega)
    obtain ⟨lf', lk', mo', ta', pl', dn', cv', e', hS'⟩ := ih (j + 1) f lf lk mo ta pl dn cv hS (by omega) (by omega)
    refine ⟨lf', lk', mo', ta', pl', dn', cv', ?_, hS'⟩
    show fX4_doAnew_B22 _ _ _ _ _ _ _ _ _ _ _ _ _ _ _ _ = _
    unfold fX4_doAnew_B22
    have eg : fX2_get 160 4 40 dit dsz 3 (nI j) = some (nI (q j)) := by
      rw [← ei]
      exact s_get (N := 160) (m := 4) (w := 40) (r := 3) (k := k) (by decide) (by decide) (by decide) (by decide) hk hd (by omega) (by omega)
    have d16 : nI (q j) / 16 = nI (q j / 16) := pk_div (d := 16) (by omega) (by decide) (by decide)
    have d6 : nI (q j / 16) / 6 = nI (q j / 16 / 6) := pk_div (d := 6) (by omega) (by decide) (by decide)
    have r6 : nI (q j / 16) - nI (q j / 16) / 6 * 6 = nI (q j / 16 % 6) := pk_rem (d := 6) (by omega) (by decide) (by decide)
    have r16 : nI (q j) - nI (q j) / 16 * 16 = nI (q j % 16) := pk_rem (d := 16) (by omega) (by decide) (by decide)
    have e96 : q j / 16 / 6 = q j / 96 := by omega
    rw [if_neg (nI_ge (by omega) (by omega)), eg, bd1_s, r16, d16, r6, d6, e96, ep, bd7_s, nI_1]
    exact e'
theorem c_doAnew (hst : SL st_size st_need st_lifted st_licked st_morning st_tally st_kinds st_places st_lengths st_downs st_covers V n) (hw : WF V n 0) {k : Nat} (hk : k ≤ 40) (hd : dsz 3 = nI k) (hq : ∀ j, j < k → dit (120 + j) = nI (q j) ∧ okD n (q j)) (kinds places lengths downs covers : Nat → Int32) :
    ∃ lf lk mo ta kn pl ln dn cv, fX4_doAnew dit dsz st_size st_need st_lifted st_licked st_morning st_tally st_kinds st_places st_lengths st_downs st_covers kinds places lengths downs covers = some (st_size, st_need, lf, lk, mo, ta, kn, pl, ln, dn, cv) ∧ SL st_size st_need lf lk mo ta kn pl ln dn cv (rpV q V k) n := by
  obtain ⟨k1, p1, l1, d1, c1, et, hT⟩ := c_take kinds places lengths downs covers (o_size := st_size) (o_need := st_need) (o_lifted := st_lifted) (o_licked := st_licked) (o_morning := st_morning) (o_tally := st_tally) (o_kinds := st_kinds) (o_places := st_places) (o_lengths := st_lengths) (o_downs := st_downs) (o_covers := st_covers)
  obtain ⟨lf, lk, mo, ta, pl, dn, cv, e, hS⟩ := c_anew_L (q := q) (dit := dit) hw hk hd hq k 0 FU _ _ _ _ _ _ _ (hT V n hw.2.1 hst) (by omega) (Nat.lt_of_le_of_lt hk (by decide))
  have e : fX4_doAnew_L22 dit dsz st_size st_need k1 l1 (nI k) FU st_lifted st_licked st_morning st_tally p1 d1 c1 0 = _ := e
  refine ⟨lf, lk, mo, ta, k1, pl, l1, dn, cv, ?_, hS⟩
  have es : fX2_sizeOf 4 dsz 3 = some (nI k) := by rw [← hd]; exact s_sizeOf (m := 4) (r := 3) (by decide) (by decide)
  unfold fX4_doAnew
  rw [et, bd11_s, es, bd1_s, e, bd7_s]
variable {size need lifted licked morning tally : Int32} {kinds places lengths downs covers : Nat → Int32} {k : Nat} {deeds : Int32} {now past kd ke kp : Nat → Int32}
theorem fl_undo (h : RD (SL st_size st_need st_lifted st_licked st_morning st_tally st_kinds st_places st_lengths st_downs st_covers V n) (fun u => SL size need lifted licked morning tally kinds places lengths downs covers u n) dsz dit deeds now past kd ke kp n V q k) (x1 : Int32) :
    ∃ r dsz' sz nd lf lk mo ta kn pl ln dn cv deeds' now' k', fX4_undo dit dsz st_size st_need st_lifted st_licked st_morning st_tally st_kinds st_places st_lengths st_downs st_covers size need lifted licked morning tally kinds places lengths downs covers x1 = some (r, dsz', sz, nd, lf, lk, mo, ta, kn, pl, ln, dn, cv) ∧ fX5_undo deeds now past x1 = some (r, deeds', now') ∧
      RD (SL st_size st_need st_lifted st_licked st_morning st_tally st_kinds st_places st_lengths st_downs st_covers V n) (fun u => SL sz nd lf lk mo ta kn pl ln dn cv u n) dsz' dit deeds' now' past kd ke kp n V q k' := by
  obtain ⟨hw, hs, ha, hk, hd, rfl, hn6⟩ := h.get
  have es : fX2_sizeOf 4 dsz 3 = some (nI k) := by rw [← hd]; exact s_sizeOf (m := 4) (r := 3) (by decide) (by decide)
  by_cases h0 : x1 < 0
  · exact ⟨_, _, _, _, _, _, _, _, _, _, _, _, _, _, _, k, by unfold fX4_undo; rw [es, bd1_s, if_pos h0], by unfold fX5_undo; rw [in0_eq, if_pos h0, bd1_s, if_pos rfl], h⟩
  obtain ⟨j, hj, rfl⟩ := nI_of h0
  by_cases hjk : j ≤ k
  rotate_left
  · have c1 : ¬ 0 ≤ nI k - nI j := by rw [Int32.not_le]; exact nI_subneg (by omega) hj
    exact ⟨_, _, _, _, _, _, _, _, _, _, _, _, _, _, _, k, by unfold fX4_undo; rw [es, bd1_s, if_neg h0, if_neg c1], by unfold fX5_undo; rw [in0_eq, if_neg h0, if_pos (nI_lt (by omega) hj), bd1_s, if_pos rfl], h⟩
  have h1 := h.1
  have hst := h.2.1
  have h6 := h.2.2.2.2.2.1
  have h9 := h.2.2.2.2.2.2.2.2.1
  have h10 := h.2.2.2.2.2.2.2.2.2
  have e0 : nI k - nI j = nI (k - j) := nI_sub hjk
  have c1 : 0 ≤ nI k - nI j := by rw [e0]; exact nI_pos' (by omega)
  obtain ⟨dsz', ecut, hd', ho⟩ : ∃ dsz', fX2_cut 4 dsz 3 (nI j) = some dsz' ∧ dsz' 3 = nI j ∧ ∀ t, t < 3 → dsz' t = dsz t := by
    unfold fX2_cut
    rw [if_neg h0, es, bd1_s]
    by_cases c : k ≤ j
    · have : j = k := by omega
      subst this
      rw [if_pos (nI_le (Nat.le_refl j) hj)]
      exact ⟨dsz, rfl, hd, fun _ _ => rfl⟩
    · have et : ast 4 dsz 3 (nI j) = some (upd dsz 3 (nI j)) := t4 (i := 3) (by decide)
      rw [if_neg (nI_ge (by omega) (by omega)), et, bd1_s]
      exact ⟨_, rfl, upd_s _ _ _, fun t ht => upd_n _ _ (by omega)⟩
  obtain ⟨lf, lk, mo, ta, kn, pl, ln, dn, cv, ea, hS⟩ := c_doAnew (q := q) (dit := dit) hst h1 (k := j) (by omega) hd' (fun y hy => h6 y (by omega)) kinds places lengths downs covers
  obtain ⟨now', en, hN⟩ : ∃ now', fX5_undo (nI k) now past (nI j) = some (nI (k - j), nI j, now') ∧ AR now' (rpV q V j) := by
    unfold fX5_undo
    rw [in0_eq, if_neg h0, if_neg (nI_nlt hjk (by omega)), bd1_s, if_neg one_ne, e0]
    by_cases c : k ≤ j
    · have : j = k := by omega
      subst this
      have cz : nI (j - j) ≤ 0 := by rw [Nat.sub_self]; decide
      rw [if_pos cz]
      exact ⟨now, rfl, ha⟩
    · rw [if_neg (nI_nle (by omega) (by omega))]
      obtain ⟨p', e, hp⟩ := m_copies (n0 := 1400) (n1 := 35) (a := 35 * j) (b := 0) (n := 35) past now (by decide) (by decide) (by omega) (by omega) (by decide)
      have e1 : (35 : Int32) * nI j = nI (35 * j) := nI_mul 35 j
      have e : fX5_copies 1400 35 past now (nI (35 * j)) 0 35 = some p' := e
      rw [e1, e, bd1_s]
      refine ⟨p', rfl, fun x hx => ?_⟩
      rw [hp x, if_pos (by omega)]
      exact h9 j (by omega) x hx
  refine ⟨_, dsz', _, _, lf, lk, mo, ta, kn, pl, ln, dn, cv, _, now', j, by unfold fX4_undo; rw [es, bd1_s, if_neg h0, if_pos c1, ecut, bd1_s, ea, bd11_s, e0], en, h1, hst, by omega, hd', rfl, fun y hy => h6 y (by omega), hS, hN, fun y hy => h9 y (by omega), fun t ht => ?_⟩
  rw [ho t ht]
  exact h10 t ht
theorem s_copyRow {items sizes : Nat → Int32} {r to k : Nat} (hr : r < 4) (ht : to < 4) (hrt : r ≠ to) (hk : k ≤ 40) (hs : sizes r = nI k) : ∃ items', fX2_copyRow 160 4 40 items sizes (nI r) (nI to) = some (items', upd sizes to (nI k)) ∧ ∀ y, items' y = if 40 * to ≤ y ∧ y < 40 * to + k then items (40 * r + (y - 40 * to)) else items y := by
  have e1 : fX2_make 160 4 40 items sizes (nI to) (nI k) 0 = _ := s_make (N := 160) (m := 4) (w := 40) (by decide) (by decide) (by decide) ht hk (by omega) (by decide)
  have hasR : ∀ z, z < 4 → (upd sizes to (nI k)) z = nI k → fX2_hasRun 4 (upd sizes to (nI k)) (nI z) 0 (nI k) = some 1 := by
    intro z hz ez
    unfold fX2_hasRun
    have c : ¬ nI k - nI k < 0 := by rw [nI_sub (Nat.le_refl k)]; exact nI_pos (by omega)
    rw [if_neg (nI_pos (by omega)), if_neg (by decide), s_sizeOf (by decide) hz, ez, bd1_s, if_neg c]
  have ix : ∀ z, nI z * 40 + 0 = nI (40 * z) := by
    intro z
    show nI z * nI 40 + nI 0 = _
    rw [nI_mul, nI_add]
    congr 1
    omega
  refine ⟨va_cpy (fillN items (40 * to) k 0) (fillN items (40 * to) k 0) (40 * r) (40 * to) k, ?_, fun y => ?_⟩
  · unfold fX2_copyRow
    rw [s_sizeOf (by decide) hr, hs, bd1_s, if_neg (nI_pos (by omega)), e1, bd2_s]
    unfold fX2_copyRun
    rw [hasR r hr (by rw [upd_n _ _ hrt]; exact hs), bd1_s, if_neg one_ne, hasR to ht (upd_s _ _ _), bd1_s, if_neg one_ne, ix, ix, acp_n (by decide) (by omega) (by omega), bd1_s, bd1_s]
  · unfold va_cpy fillN
    by_cases c : 40 * to ≤ y ∧ y < 40 * to + k
    · rw [if_pos c, if_pos c]
      rw [if_neg]
      rcases (show r < to ∨ to < r by omega) with z | z <;> omega
    · rw [if_neg c, if_neg c, if_neg c]
theorem fl_keep {Sst : Prop} (h : RD Sst (fun u => SL size need lifted licked morning tally kinds places lengths downs covers u n) dsz dit deeds now past kd ke kp n V q k) (x1 : Int32) :
    ∃ r dit' dsz' ke' kp' kd', fX4_keep dit dsz size x1 = some (r, dit', dsz') ∧ fX5_keep deeds now past ke kp kd x1 = some (r, ke', kp', kd') ∧ RD Sst (fun u => SL size need lifted licked morning tally kinds places lengths downs covers u n) dsz' dit' deeds now past kd' ke' kp' n V q k := by
  obtain ⟨hw, hs, ha, hk, hd, rfl, hn6⟩ := h.get
  rcases spl x1 (k := 3) (by decide) with ⟨t, ht, rfl⟩ | hx
  rotate_left
  · have hx := inK0 (k := 2) (by decide) hx
    have z4 : fX4_isIn x1 3 = some 0 := hx.1
    have z5 : fX5_in0 x1 0 2 = some 0 := hx.2
    exact ⟨_, _, _, _, _, _, by unfold fX4_keep; rw [z4, bd1_s, if_pos rfl], by unfold fX5_keep; rw [z5, bd1_s, if_pos rfl], h⟩
  have z4 : fX4_isIn (nI t) 3 = some 1 := (inK1 (k := 2) (by decide) (by omega)).1
  have z5 : fX5_in0 (nI t) 0 2 = some 1 := (inK1 (k := 2) (by decide) (by omega)).2
  have hany := m_isAny ha hw
  by_cases n0 : n = 0
  · subst n0
    have c0 : size = 0 := hs.1
    exact ⟨_, _, _, _, _, _, by unfold fX4_keep; rw [z4, bd1_s, if_neg one_ne, if_pos c0], by unfold fX5_keep; rw [z5, bd1_s, if_neg one_ne, hany, if_pos rfl, bd1_s, if_pos rfl], h⟩
  have c0 : ¬ size = 0 := by rw [hs.1]; exact nI_ne0 (by omega) (by omega)
  obtain ⟨dit', ec, hdit⟩ := s_copyRow (items := dit) (sizes := dsz) (r := 3) (to := t) (by decide) (by omega) (by omega) hk hd
  have ec : fX2_copyRow 160 4 40 dit dsz 3 (nI t) = _ := ec
  have es : fX2_sizeOf 4 (upd dsz t (nI k)) 3 = some (nI k) := by
    have : fX2_sizeOf 4 (upd dsz t (nI k)) 3 = some ((upd dsz t (nI k)) 3) := s_sizeOf (m := 4) (r := 3) (by decide) (by decide)
    rw [this, upd_n _ _ (by omega), hd]
  obtain ⟨ke', e1, hke⟩ := m_copies (n0 := 35) (n1 := 105) (a := 0) (b := 35 * t) (n := 35) now ke (by decide) (by decide) (by omega) (by omega) (by decide)
  obtain ⟨kp', e2, hkp⟩ := m_copies (n0 := 1400) (n1 := 4200) (a := 0) (b := 1400 * t) (n := 1400) past kp (by decide) (by decide) (by omega) (by omega) (by decide)
  have i1 : (35 : Int32) * nI t = nI (35 * t) := nI_mul 35 t
  have i2 : (1400 : Int32) * nI t = nI (1400 * t) := nI_mul 1400 t
  have e1 : fX5_copies 35 105 now ke 0 (nI (35 * t)) 35 = some ke' := e1
  have e2 : fX5_copies 1400 4200 past kp 0 (nI (1400 * t)) 1400 = some kp' := e2
  have e3 : ast 3 kd (nI t) (nI k) = some (upd kd t (nI k)) := ast_nI ht (by decide)
  obtain ⟨h1, h2, h3, h4, h5, h6, h7, h8, h9, h10⟩ := h
  refine ⟨_, dit', _, ke', kp', _, by unfold fX4_keep; rw [z4, bd1_s, if_neg one_ne, if_neg c0, ec, bd2_s, es, bd1_s], by unfold fX5_keep; rw [z5, bd1_s, if_neg one_ne, hany, if_neg n0, bd1_s, if_neg one_ne, i1, e1, bd1_s, i2, e2, bd1_s, e3, bd1_s], h1, h2, h3, by rw [upd_n _ _ (by omega)]; exact h4, rfl, ?_, h7, h8, h9, ?_⟩
  · intro j hj
    rw [hdit, if_neg (by omega)]
    exact h6 j hj
  · intro z hz
    by_cases ez : z = t
    · subst ez
      refine Or.inr ⟨q, k, by omega, hk, upd_s _ _ _, upd_s _ _ _, fun j hj => ?_, fun x hx => ?_, fun j hj x hx => ?_⟩
      · rw [hdit, if_pos (by omega), show 40 * 3 + (40 * z + j - 40 * z) = 120 + j by omega]
        exact h6 j hj
      · show ke' (35 * z + x) = _
        rw [hke, if_pos (by omega), show 0 + (35 * z + x - 35 * z) = x by omega]
        exact h8 x hx
      · show kp' (1400 * z + 35 * j + x) = _
        rw [hkp, if_pos (by omega), show 0 + (1400 * z + 35 * j + x - 1400 * z) = 35 * j + x by omega]
        exact h9 j hj x hx
    · rw [upd_n _ _ ez, upd_n _ _ ez]
      rcases h10 z hz with y | ⟨q', k', z0, z1, z2, z3, z4', z5', z6⟩
      · exact Or.inl y
      · refine Or.inr ⟨q', k', z0, z1, z2, z3, fun j hj => ?_, fun x hx => ?_, fun j hj x hx => ?_⟩
        · rw [hdit, if_neg (by rcases (show z < t ∨ t < z by omega) with y | y <;> omega)]
          exact z4' j hj
        · show ke' (35 * z + x) = _
          rw [hke, if_neg (by rcases (show z < t ∨ t < z by omega) with y | y <;> omega)]
          exact z5' x hx
        · show kp' (1400 * z + 35 * j + x) = _
          rw [hkp, if_neg (by rcases (show z < t ∨ t < z by omega) with y | y <;> omega)]
          exact z6 j hj x hx
theorem fl_on {fi5 : Int32} {F4 F5 : Nat → Int32} (hF : ∀ j, j < 6 → F4 j = F5 j) (h : RD (SL st_size st_need st_lifted st_licked st_morning st_tally st_kinds st_places st_lengths st_downs st_covers V n) (fun u => SL size need lifted licked morning tally kinds places lengths downs covers u n) dsz dit deeds now past kd ke kp n V q k) (x1 : Int32) :
    ∃ r fi dit' dsz' sz nd lf lk mo ta kn pl ln dn cv F4' deeds' now' past' F5' q' k', fX4_on fi5 dit dsz st_size st_need st_lifted st_licked st_morning st_tally st_kinds st_places st_lengths st_downs st_covers size need lifted licked morning tally kinds places lengths downs covers F4 x1 = some (r, fi, dit', dsz', sz, nd, lf, lk, mo, ta, kn, pl, ln, dn, cv, F4') ∧ fX5_on deeds fi5 now past ke kp kd F5 x1 = some (r, deeds', fi, now', past', F5') ∧ (∀ j, j < 6 → F4' j = F5' j) ∧
      RD (SL st_size st_need st_lifted st_licked st_morning st_tally st_kinds st_places st_lengths st_downs st_covers V n) (fun u => SL sz nd lf lk mo ta kn pl ln dn cv u n) dsz' dit' deeds' now' past' kd ke kp n V q' k' := by
  obtain ⟨hw, hs, ha, hk, hd, rfl, hn6⟩ := h.get
  rcases spl x1 (k := 3) (by decide) with ⟨t, ht, rfl⟩ | hx
  rotate_left
  · have hx := inK0 (k := 2) (by decide) hx
    have z4 : fX4_isIn x1 3 = some 0 := hx.1
    have z5 : fX5_in0 x1 0 2 = some 0 := hx.2
    exact ⟨_, _, _, _, _, _, _, _, _, _, _, _, _, _, _, _, _, _, _, _, q, k, by unfold fX4_on; rw [z4, bd1_s, if_pos rfl], by unfold fX5_on; rw [z5, bd1_s, if_pos rfl], hF, h⟩
  have z4 : fX4_isIn (nI t) 3 = some 1 := (inK1 (k := 2) (by decide) (by omega)).1
  have z5 : fX5_in0 (nI t) 0 2 = some 1 := (inK1 (k := 2) (by decide) (by omega)).2
  have ek : ald 3 kd (nI t) = some (kd t) := ald_nI ht (by decide)
  have h10 := h.2.2.2.2.2.2.2.2.2
  rcases h10 t ht with ⟨y1, y2⟩ | ⟨q', k', w0, w1, w2, w3, w4, w5, w6⟩
  · have em : fX2_isMissing 4 dsz (nI t) = some 1 := s_miss1 (by decide) (by omega) y1
    exact ⟨_, _, _, _, _, _, _, _, _, _, _, _, _, _, _, _, _, _, _, _, q, k, by unfold fX4_on; rw [z4, bd1_s, if_neg one_ne, em, bd1_s, if_neg one_ne, fd4_1, bd3_s], by unfold fX5_on; rw [z5, bd1_s, if_neg one_ne, ek, bd1_s, if_pos y2, fd5_1, bd3_s], upd_eq6 hF (by decide), h⟩
  have em : fX2_isMissing 4 dsz (nI t) = some 0 := s_miss0 (by decide) (by omega) (by omega) w2
  obtain ⟨dit', ec, hdit⟩ := s_copyRow (items := dit) (sizes := dsz) (r := t) (to := 3) (by omega) (by decide) (by omega) w1 w2
  have ec : fX2_copyRow 160 4 40 dit dsz (nI t) 3 = _ := ec
  have es : fX2_sizeOf 4 (upd dsz 3 (nI k')) 3 = some (nI k') := by
    have : fX2_sizeOf 4 (upd dsz 3 (nI k')) 3 = some ((upd dsz 3 (nI k')) 3) := s_sizeOf (m := 4) (r := 3) (by decide) (by decide)
    rw [this, upd_s]
  obtain ⟨now', e1, hnow⟩ := m_copies (n0 := 105) (n1 := 35) (a := 35 * t) (b := 0) (n := 35) ke now (by decide) (by decide) (by omega) (by omega) (by decide)
  obtain ⟨past', e2, hpast⟩ := m_copies (n0 := 4200) (n1 := 1400) (a := 1400 * t) (b := 0) (n := 1400) kp past (by decide) (by decide) (by omega) (by omega) (by decide)
  have i1 : (35 : Int32) * nI t = nI (35 * t) := nI_mul 35 t
  have i2 : (1400 : Int32) * nI t = nI (1400 * t) := nI_mul 1400 t
  have e1 : fX5_copies 105 35 ke now (nI (35 * t)) 0 35 = some now' := e1
  have e2 : fX5_copies 4200 1400 kp past (nI (1400 * t)) 0 1400 = some past' := e2
  have hq' : ∀ j, j < k' → dit' (120 + j) = nI (q' j) ∧ okD n (q' j) := by
    intro j hj
    rw [hdit, if_pos (by omega), show 40 * t + (120 + j - 40 * 3) = 40 * t + j by omega]
    exact w4 j hj
  obtain ⟨h1, h2, h3, h4, h5, h6, h7, h8, h9, -⟩ := h
  obtain ⟨lf, lk, mo, ta, kn, pl, ln, dn, cv, ea, hS⟩ := c_doAnew (q := q') (dit := dit') (dsz := upd dsz 3 (nI k')) h2 h1 (k := k') w1 (upd_s _ _ _) hq' kinds places lengths downs covers
  refine ⟨_, _, dit', _, _, _, lf, lk, mo, ta, kn, pl, ln, dn, cv, _, _, now', past', _, q', k', by unfold fX4_on; rw [z4, bd1_s, if_neg one_ne, em, bd1_s, if_pos rfl, ec, bd2_s, ea, bd11_s, es, bd1_s], by unfold fX5_on; rw [z5, bd1_s, if_neg one_ne, ek, bd1_s, w3, if_neg (m1_ne (by omega)).2, i1, e1, bd1_s, i2, e2, bd1_s, bd1_s], hF, h1, h2, w1, upd_s _ _ _, rfl, hq', hS, ?_, ?_, ?_⟩
  · intro x hx
    rw [hnow, if_pos (by omega)]
    exact w5 x hx
  · intro j hj x hx
    show past' (35 * j + x) = _
    rw [hpast, if_pos (by omega), show 1400 * t + (35 * j + x - 0) = 1400 * t + 35 * j + x by omega]
    exact w6 j hj x hx
  · intro z hz
    rw [upd_n _ _ (by omega)]
    rcases h10 z hz with y | ⟨q2, k2, u0, u1, u2, u3, u4, u5, u6⟩
    · exact Or.inl y
    · refine Or.inr ⟨q2, k2, u0, u1, u2, u3, fun j hj => ?_, u5, u6⟩
      rw [hdit, if_neg (by omega)]
      exact u4 j hj
end
theorem step_undo : Step_undo Rel := by
  intro c d h x1
  obtain ⟨hA, hB, hC, n, V, q, k, hD⟩ := h
  obtain ⟨r, dsz', sz, nd, lf, lk, mo, ta, kn, pl, ln, dn, cv, deeds', now', k', e4, e5, hD'⟩ := fl_undo hD.rd x1
  exact go2 (map_some e4) (map_some e5) rfl ⟨hA, hB, hC, n, V, q, k', hD'⟩
theorem step_keep : Step_keep Rel := by
  intro c d h x1
  obtain ⟨hA, hB, hC, n, V, q, k, hD⟩ := h
  obtain ⟨r, dit', dsz', ke', kp', kd', e4, e5, hD'⟩ := fl_keep hD.rd x1
  exact go2 (map_some e4) (map_some e5) rfl ⟨hA, hB, hC, n, V, q, k, hD'⟩
theorem step_on : Step_on Rel := by
  intro c d h x1
  obtain ⟨⟨a1, a2, a3, a4, a5⟩, hB, hC, n, V, q, k, hD⟩ := h
  obtain ⟨r, fi, dit', dsz', sz, nd, lf, lk, mo, ta, kn, pl, ln, dn, cv, F4', deeds', now', past', F5', q', k', e4, e5, hF, hD'⟩ := fl_on (fi5 := ms_finding d) a5 hD.rd x1
  rw [← a1] at e4
  exact go2 (map_some e4) (map_some e5) rfl ⟨⟨rfl, a2, a3, a4, hF⟩, hB, hC, n, V, q', k', hD'⟩
