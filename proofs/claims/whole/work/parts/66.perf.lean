/-! ===== pure: taking a slice, licking, performing a deed ===== -/
theorem tb_eq (a j : Nat) : a.testBit j = decide (a / 2 ^ j % 2 = 1) := Nat.testBit_eq_decide_div_mod_eq
theorem lfN_flip {v : Nat → Nat} {n i : Nat} (h : ∀ i, i < n → lfV v i < 2) (hi : i < n) : lfN (upN v (9 + 5 * i) (1 - lfV v i)) n = lfN v n ^^^ 2 ^ i := by
  have el : ∀ j, lfV (upN v (9 + 5 * i) (1 - lfV v i)) j = if j = i then 1 - lfV v i else lfV v j := fun j => by
    unfold lfV
    by_cases e : j = i
    · subst e; rw [upN_s, if_pos rfl]
    · rw [upN_n _ _ (by omega), if_neg e]
  have h' : ∀ j, j < n → lfV (upN v (9 + 5 * i) (1 - lfV v i)) j < 2 := fun j hj => by
    rw [el]
    have := h j hj
    split <;> omega
  have l1 := lfN_lt h'
  have l2 := Nat.xor_lt_two_pow (lfN_lt h) (Nat.pow_lt_pow_right (a := 2) (by decide) hi)
  apply Nat.eq_of_testBit_eq
  intro j
  by_cases hj : j < n
  · rw [tb_eq, tb_eq, lfN_bit h' j hj, bit_xor, el]
    by_cases e : j = i
    · subst e
      rw [if_pos rfl, if_pos rfl, lfN_bit h j hj]
    · rw [if_neg e, if_neg e, lfN_bit h j hj]
  · have hp : 2 ^ n ≤ 2 ^ j := Nat.pow_le_pow_right (by decide) (by omega)
    rw [Nat.testBit_lt_two_pow (by omega), Nat.testBit_lt_two_pow (by omega)]
theorem c_take_L {o_kinds o_places o_lengths o_downs o_covers : Nat → Int32} : ∀ (m k fuel : Nat) (kinds places lengths downs covers : Nat → Int32), (∀ j, j < k → kinds j = o_kinds j ∧ places j = o_places j ∧ lengths j = o_lengths j ∧ downs j = o_downs j ∧ covers j = o_covers j) → k + m = 6 → m < fuel →
    ∃ k1 p1 l1 d1 c1, fX3_take_L2 o_kinds o_places o_lengths o_downs o_covers fuel kinds places lengths downs covers (nI k) = some (k1, p1, l1, d1, c1) ∧ ∀ j, j < 6 → k1 j = o_kinds j ∧ p1 j = o_places j ∧ l1 j = o_lengths j ∧ d1 j = o_downs j ∧ c1 j = o_covers j := by
  intro m
  induction m with
  | zero =>
    intro k fuel kinds places lengths downs covers h h1 h2
    obtain ⟨f, rfl⟩ : ∃ f, fuel = f + 1 := ⟨fuel - 1, by omega⟩
    have hk : k = 6 := by omega
    subst hk
    refine ⟨kinds, places, lengths, downs, covers, ?_, h⟩
    show fX3_take_B2 _ _ _ _ _ _ _ _ _ _ _ _ = _
    unfold fX3_take_B2
    exact if_pos (nI_le (Nat.le_refl 6) (by decide))
  | succ m ih =>
    intro k fuel kinds places lengths downs covers h h1 h2
    obtain ⟨f, rfl⟩ : ∃ f, fuel = f + 1 := ⟨fuel - 1, by omega⟩
    obtain ⟨k1, p1, l1, d1, c1, e, hq⟩ := ih (k + 1) f (upd kinds k (o_kinds k)) (upd places k (o_places k)) (upd lengths k (o_lengths k)) (upd downs k (o_downs k)) (upd covers k (o_covers k)) (fun j hj => by
      by_cases ej : j = k
      · subst ej
        exact ⟨upd_s _ _ _, upd_s _ _ _, upd_s _ _ _, upd_s _ _ _, upd_s _ _ _⟩
      · obtain ⟨q0, q1, q2, q3, q4⟩ := h j (by omega)
        exact ⟨by rw [upd_n _ _ ej]; exact q0, by rw [upd_n _ _ ej]; exact q1, by rw [upd_n _ _ ej]; exact q2, by rw [upd_n _ _ ej]; exact q3, by rw [upd_n _ _ ej]; exact q4⟩) (by omega) (by omega)
    refine ⟨k1, p1, l1, d1, c1, ?_, hq⟩
    show fX3_take_B2 _ _ _ _ _ _ _ _ _ _ _ _ = _
    unfold fX3_take_B2
    have c6 : ¬ (6 : Int32) ≤ nI k := nI_ge (a := k) (b := 6) (by omega) (by decide)
    rw [if_neg c6, a6 (by omega), bd1_s, t6 (by omega), bd1_s, a6 (by omega), bd1_s, t6 (by omega), bd1_s, a6 (by omega), bd1_s, t6 (by omega), bd1_s, a6 (by omega), bd1_s, t6 (by omega), bd1_s, a6 (by omega), bd1_s, t6 (by omega), bd1_s, nI_1]
    exact e
theorem c_take (kinds places lengths downs covers : Nat → Int32) {o_size o_need o_lifted o_licked o_morning o_tally : Int32} {o_kinds o_places o_lengths o_downs o_covers : Nat → Int32} :
    ∃ k1 p1 l1 d1 c1, fX3_take kinds places lengths downs covers o_size o_need o_lifted o_licked o_morning o_tally o_kinds o_places o_lengths o_downs o_covers = some (o_size, o_need, o_lifted, o_licked, o_morning, o_tally, k1, p1, l1, d1, c1) ∧ ∀ (v : Nat → Nat) (n : Nat), n ≤ 6 → SL o_size o_need o_lifted o_licked o_morning o_tally o_kinds o_places o_lengths o_downs o_covers v n → SL o_size o_need o_lifted o_licked o_morning o_tally k1 p1 l1 d1 c1 v n := by
  obtain ⟨k1, p1, l1, d1, c1, e, hq⟩ := c_take_L (o_kinds := o_kinds) (o_places := o_places) (o_lengths := o_lengths) (o_downs := o_downs) (o_covers := o_covers) 6 0 FU kinds places lengths downs covers (fun j hj => absurd hj (Nat.not_lt_zero j)) rfl (by decide)
  have e : fX3_take_L2 o_kinds o_places o_lengths o_downs o_covers FU kinds places lengths downs covers 0 = _ := e
  refine ⟨k1, p1, l1, d1, c1, ?_, ?_⟩
  · unfold fX3_take
    rw [e, bd5_s]
  · intro v n hn hs
    obtain ⟨s1, s2, s3, s4, s5, s6, s7⟩ := hs
    refine ⟨s1, s2, s3, s4, s5, s6, fun i hi => ?_⟩
    obtain ⟨q0, q1, q2, q3, q4⟩ := hq i (by omega)
    obtain ⟨r0, r1, r2, r3, r4⟩ := s7 i hi
    exact ⟨q0.trans r0, q1.trans r1, q2.trans r2, q3.trans r3, q4.trans r4⟩
theorem c_canLick {x p : Nat} (hx : x < 65536) (hp : p < 16) : fX3_canLick (nI x) (nI p) = some (if x / 2 ^ p % 2 = 1 ∨ pcN x < 8 then 1 else 0) := by
  have h16 := pcN_le x
  unfold fX3_canLick fX4_bit fX3_canLick_j24
  rw [bd1_s, n_bit (by omega) (by omega), bitc_n hx]
  by_cases c : x / 2 ^ p % 2 = 1
  · rw [if_pos ((nI_eq1 (by omega)).mpr c), if_pos (Or.inl c)]
  · rw [if_neg (fun q => c ((nI_eq1 (by omega)).mp q))]
    by_cases c2 : pcN x < 8
    · have c3 : ¬ (8 : Int32) ≤ nI (pcN x) := nI_ge (a := pcN x) (b := 8) c2 (by decide)
      rw [if_neg c3, if_pos (Or.inr c2)]
    · have c3 : (8 : Int32) ≤ nI (pcN x) := nI_le (a := 8) (b := pcN x) (by omega) (by omega)
      rw [if_pos c3, if_neg (by omega)]
theorem pow16 : ∀ p, p < 16 → 2 ^ p < 65536 := by decide
theorem sh1 {k : Nat} (hk : k < 16) : (1 : Int32) <<< (nI k &&& 31) = nI (2 ^ k) := by
  have := n_shl (a := 1) (k := k) (by omega) (by have := pow16 k hk; omega)
  rw [Nat.one_mul] at this
  exact this
theorem nI_le4 {a b : Nat} (ha : a < 2 ^ 31) (hb : b < 2 ^ 31) (h : a ≠ b) : ¬ nI a = nI b := fun q => h ((nI_eq ha hb).mp q)
theorem what_ne {a : Nat} (ha : a ≤ 4) : (¬ a = 0 → ¬ nI a = 0) ∧ (¬ a = 1 → ¬ nI a = 1) ∧ (¬ a = 2 → ¬ nI a = 2) ∧ (¬ a = 3 → ¬ nI a = 3) := by
  have : ∀ a, a ≤ 4 → (¬ a = 0 → ¬ nI a = 0) ∧ (¬ a = 1 → ¬ nI a = 1) ∧ (¬ a = 2 → ¬ nI a = 2) ∧ (¬ a = 3 → ¬ nI a = 3) := by decide
  exact this a ha
section
variable {size need lifted licked morning tally : Int32} {kinds places lengths downs covers : Nat → Int32} {v : Nat → Nat} {n B : Nat}
theorem c_downOf (hs : SL size need lifted licked morning tally kinds places lengths downs covers v n) (hw : WF v n B) {i : Nat} (hi : i < n) : fX3_downOf size downs (nI i) = some (nI (dnV v i)) := by
  have hn6 := hw.2.1
  unfold fX3_downOf
  rw [hs.1, c_has hn6 hi, bd1_s, if_neg one_ne, a6 (by omega), bd1_s, (hs.2.2.2.2.2.2 i hi).2.2.2.1]
theorem c_placeOf (hs : SL size need lifted licked morning tally kinds places lengths downs covers v n) (hw : WF v n B) {i : Nat} (hi : i < n) : fX3_placeOf size places (nI i) = some (nI (isV v i)) := by
  have hn6 := hw.2.1
  unfold fX3_placeOf
  rw [hs.1, c_has hn6 hi, bd1_s, if_neg one_ne, a6 (by omega), bd1_s, (hs.2.2.2.2.2.2 i hi).2.1]
/-- numbers that differ at no place that a slice has -/
theorem SL.cong {u : Nat → Nat} (hs : SL size need lifted licked morning tally kinds places lengths downs covers v n) (h : ∀ x, x < 5 + 5 * n → u x = v x) : SL size need lifted licked morning tally kinds places lengths downs covers u n := by
  obtain ⟨s1, s2, s3, s4, s5, s6, s7⟩ := hs
  have hl : ∀ i, i < n → lfV u i = lfV v i := fun i hi => h _ (by omega)
  refine ⟨s1, by rw [h 0 (by omega)]; exact s2, by rw [lfN_cong hl]; exact s3, by rw [h 4 (by omega)]; exact s4, by rw [h 2 (by omega)]; exact s5, by rw [h 3 (by omega)]; exact s6, fun i hi => ?_⟩
  obtain ⟨r0, r1, r2, r3, r4⟩ := s7 i hi
  have q0 : kdV u i = kdV v i := h _ (by omega)
  have q1 : isV u i = isV v i := h _ (by omega)
  have q2 : lnV u i = lnV v i := h _ (by omega)
  have q3 : dnV u i = dnV v i := h _ (by omega)
  refine ⟨by rw [q0]; exact r0, by rw [q1]; exact r1, by rw [q2]; exact r2, by rw [q3]; exact r3, ?_⟩
  unfold cvV
  rw [q0, q1, q2, q3]
  exact r4
theorem c_perform (hs : SL size need lifted licked morning tally kinds places lengths downs covers v n) (hw : WF v n B) (hB : B < 2 ^ 20) {what i place : Nat} (hwh : what ≤ 4) (hi : i < n) (hp : place < 16) :
    ∃ lf lk mo ta pl dn cv, fX3_perform size need lifted licked morning tally kinds places lengths downs covers (nI what) (nI i) (nI place) = some (lf, lk, mo, ta, pl, dn, cv) ∧ SL size need lf lk mo ta kinds pl lengths dn cv (spV what i place v) n := by
  have hn6 := hw.2.1
  obtain ⟨b0, b1, b2, b3, b4⟩ := hw.2.2.2.2.2.2.2 i hi
  have hne := what_ne hwh
  unfold fX3_perform spV
  by_cases w0 : what = 0
  · subst w0
    obtain ⟨mo, ta, pl, dn, cv, e, hS⟩ := c_fall hs hw hB (by omega)
    refine ⟨lifted, licked, mo, ta, pl, dn, cv, ?_, ?_⟩
    · rw [if_pos (show nI 0 = 0 from rfl), e, bd5_s]
    · rw [if_pos rfl]; exact hS
  rw [if_neg w0, if_neg (hne.1 w0)]
  by_cases w1 : what = 1
  · subst w1
    obtain ⟨pl, dn, cv, e, hS⟩ := c_settle hs hw (i := i) (p := place) (d := dnV v i) hi hp b3
    refine ⟨lifted, licked, morning, tally, pl, dn, cv, ?_, ?_⟩
    · rw [if_pos (show nI 1 = 1 from rfl), c_downOf hs hw hi, bd1_s, e, bd3_s]
    · rw [if_pos rfl]
      refine hS.cong (fun x _ => ?_)
      by_cases ex : x = 8 + 5 * i
      · subst ex; rw [upN_n _ _ (by omega), upN_s]; rfl
      · rw [upN_n (upN v (6 + 5 * i) place) _ ex]
  rw [if_neg w1, if_neg (hne.2.1 w1)]
  by_cases w2 : what = 2
  · subst w2
    obtain ⟨pl, dn, cv, e, hS⟩ := c_settle hs hw (i := i) (p := isV v i) (d := 1 - dnV v i) hi b1 (by omega)
    refine ⟨lifted, licked, morning, tally, pl, dn, cv, ?_, ?_⟩
    · have e4 : (1 : Int32) - nI (dnV v i) = nI (1 - dnV v i) := nI_sub (a := 1) (by omega)
      rw [if_pos (show nI 2 = 2 from rfl), c_placeOf hs hw hi, bd1_s, c_downOf hs hw hi, bd1_s, e4, e, bd3_s]
    · rw [if_pos rfl]
      refine hS.cong (fun x _ => ?_)
      by_cases ex : x = 8 + 5 * i
      · subst ex; rw [upN_s, upN_s]
      · rw [upN_n _ _ ex, upN_n _ _ ex]
        by_cases ey : x = 6 + 5 * i
        · subst ey; rw [upN_s]; rfl
        · rw [upN_n _ _ ey]
  rw [if_neg w2, if_neg (hne.2.2.1 w2)]
  by_cases w3 : what = 3
  · subst w3
    have h8 : ∀ i, i < n → lfV v i < 2 := fun i hi => (hw.2.2.2.2.2.2.2 i hi).2.2.2.2
    refine ⟨nI (lfN v n ^^^ 2 ^ i), licked, morning, tally, places, downs, covers, ?_, ?_⟩
    · rw [if_pos (show nI 3 = 3 from rfl), sh1 (by omega), hs.2.2.1, n_xor]
    · rw [if_pos rfl]
      obtain ⟨s1, s2, s3, s4, s5, s6, s7⟩ := hs
      have e0 : ∀ x, x ≠ 9 + 5 * i → upN v (9 + 5 * i) (1 - lfV v i) x = v x := fun x hx => upN_n _ _ hx
      refine ⟨s1, by rw [e0 0 (by omega)]; exact s2, by rw [lfN_flip h8 hi], by rw [e0 4 (by omega)]; exact s4, by rw [e0 2 (by omega)]; exact s5, by rw [e0 3 (by omega)]; exact s6, fun j hj => ?_⟩
      obtain ⟨r0, r1, r2, r3, r4⟩ := s7 j hj
      have q0 : kdV (upN v (9 + 5 * i) (1 - lfV v i)) j = kdV v j := e0 _ (by omega)
      have q1 : isV (upN v (9 + 5 * i) (1 - lfV v i)) j = isV v j := e0 _ (by omega)
      have q2 : lnV (upN v (9 + 5 * i) (1 - lfV v i)) j = lnV v j := e0 _ (by omega)
      have q3 : dnV (upN v (9 + 5 * i) (1 - lfV v i)) j = dnV v j := e0 _ (by omega)
      refine ⟨by rw [q0]; exact r0, by rw [q1]; exact r1, by rw [q2]; exact r2, by rw [q3]; exact r3, ?_⟩
      unfold cvV
      rw [q0, q1, q2, q3]
      exact r4
  rw [if_neg w3, if_neg (hne.2.2.2 w3)]
  have w4 : what = 4 := by omega
  subst w4
  rw [if_pos (show nI 4 = 4 from rfl), hs.2.2.2.1, c_canLick hw.2.2.2.1 hp, bd1_s]
  by_cases cm : v 4 / 2 ^ place % 2 = 1 ∨ pcN (v 4) < 8
  · refine ⟨lifted, nI (v 4 ^^^ 2 ^ place), morning, tally, places, downs, covers, ?_, ?_⟩
    · rw [if_pos cm, if_neg one_ne, sh1 hp]
      unfold fX3_perform_j112
      rw [n_xor]
    · rw [if_pos cm]
      obtain ⟨s1, s2, s3, s4, s5, s6, s7⟩ := hs
      have e0 : ∀ x, x ≠ 4 → upN v 4 (v 4 ^^^ 2 ^ place) x = v x := fun x hx => upN_n _ _ hx
      refine ⟨s1, by rw [e0 0 (by omega)]; exact s2, by rw [lfN_cong (u := upN v 4 (v 4 ^^^ 2 ^ place)) (v := v) (fun j _ => e0 (9 + 5 * j) (by omega))]; exact s3, by rw [upN_s], by rw [e0 2 (by omega)]; exact s5, by rw [e0 3 (by omega)]; exact s6, fun j hj => ?_⟩
      obtain ⟨r0, r1, r2, r3, r4⟩ := s7 j hj
      have q0 : kdV (upN v 4 (v 4 ^^^ 2 ^ place)) j = kdV v j := e0 _ (by omega)
      have q1 : isV (upN v 4 (v 4 ^^^ 2 ^ place)) j = isV v j := e0 _ (by omega)
      have q2 : lnV (upN v 4 (v 4 ^^^ 2 ^ place)) j = lnV v j := e0 _ (by omega)
      have q3 : dnV (upN v 4 (v 4 ^^^ 2 ^ place)) j = dnV v j := e0 _ (by omega)
      refine ⟨by rw [q0]; exact r0, by rw [q1]; exact r1, by rw [q2]; exact r2, by rw [q3]; exact r3, ?_⟩
      unfold cvV
      rw [q0, q1, q2, q3]
      exact r4
  · refine ⟨lifted, licked, morning, tally, places, downs, covers, ?_, ?_⟩
    · rw [if_neg cm, if_pos rfl]
      unfold fX3_perform_j112
      rw [hs.2.2.2.1, Int32.xor_zero]
    · rw [if_neg cm]
      exact hs
end
