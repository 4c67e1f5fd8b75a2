/-! ===== pure: deeds ===== -/
theorem sumN_up {f g : Nat → Nat} {p : Nat} : ∀ {n : Nat}, p < n → (∀ j, j ≠ p → f j = g j) → sumN f n + g p = sumN g n + f p
  | 0, h, _ => absurd h (Nat.not_lt_zero p)
  | n + 1, h, e => by
    rw [sumN, sumN]
    by_cases hp : p = n
    · subst hp
      have := sumN_cong (f := f) (g := g) (n := p) (fun j hj => e j (by omega))
      omega
    · have ih := sumN_up (f := f) (g := g) (p := p) (n := n) (by omega) e
      have := e n (by omega)
      omega
theorem bit_xor {x p j : Nat} : (x ^^^ 2 ^ p) / 2 ^ j % 2 = if j = p then 1 - x / 2 ^ p % 2 else x / 2 ^ j % 2 := by
  rw [← Nat.toNat_testBit, Nat.testBit_xor, Nat.testBit_two_pow]
  by_cases e : j = p
  · subst e
    rw [if_pos rfl, ← Nat.toNat_testBit]
    cases x.testBit j <;> simp
  · rw [if_neg e, ← Nat.toNat_testBit, decide_eq_false (fun q => e q.symm)]
    simp
theorem pc_xor {x p : Nat} (hp : p < 16) : pcN (x ^^^ 2 ^ p) + x / 2 ^ p % 2 = pcN x + (1 - x / 2 ^ p % 2) := by
  rw [pcN_sum, pcN_sum]
  have := sumN_up (f := fun j => (x ^^^ 2 ^ p) / 2 ^ j % 2) (g := fun j => x / 2 ^ j % 2) (p := p) (n := 16) hp (fun j hj => by simp only [bit_xor, if_neg hj])
  simp only [bit_xor (j := p), if_true] at this
  exact this
/-- what a deed does -/
def spV (what i place : Nat) (v : Nat → Nat) : Nat → Nat :=
  if what = 0 then paV v else if what = 1 then upN v (6 + 5 * i) place else if what = 2 then upN v (8 + 5 * i) (1 - dnV v i) else if what = 3 then upN v (9 + 5 * i) (1 - lfV v i) else if v 4 / 2 ^ place % 2 = 1 ∨ pcN (v 4) < 8 then upN v 4 (v 4 ^^^ 2 ^ place) else v
theorem WF.mono {v : Nat → Nat} {n B C : Nat} (h : WF v n B) (hBC : B ≤ C) : WF v n C := ⟨h.1, h.2.1, by have := h.2.2.1; omega, h.2.2.2⟩
/-- a place of a peel changes -/
theorem WF.upP {v : Nat → Nat} {n B i o a : Nat} (h : WF v n B) (hi : i < n) (ho : o < 5) (ha : (o = 0 → a < 6) ∧ (o = 1 → a < 16) ∧ (o = 2 → 1 ≤ a ∧ a ≤ 4) ∧ (o = 3 → a < 2) ∧ (o = 4 → a < 2)) : WF (upN v (5 + o + 5 * i) a) n B := by
  obtain ⟨h1, h2, h3, h4, h5, h6, h7, h8⟩ := h
  have e0 : ∀ x, x < 5 → upN v (5 + o + 5 * i) a x = v x := fun x hx => upN_n _ _ (by omega)
  refine ⟨by rw [e0 1 (by decide)]; exact h1, h2, by rw [e0 2 (by decide)]; exact h3, by rw [e0 4 (by decide)]; exact h4, by rw [e0 4 (by decide)]; exact h5, by rw [e0 0 (by decide)]; exact h6, by rw [e0 0 (by decide)]; exact h7, ?_⟩
  intro j hj
  obtain ⟨a1, a2, a3, a4, a5⟩ := h8 j hj
  have key : ∀ q, q < 5 → upN v (5 + o + 5 * i) a (5 + q + 5 * j) = if j = i ∧ q = o then a else v (5 + q + 5 * j) := by
    intro q hq
    by_cases e : j = i ∧ q = o
    · obtain ⟨rfl, rfl⟩ := e
      rw [if_pos ⟨rfl, rfl⟩, upN_s]
    · rw [if_neg e, upN_n _ _ (by omega)]
  have k0 := key 0 (by decide)
  have k1 := key 1 (by decide)
  have k2 := key 2 (by decide)
  have k3 := key 3 (by decide)
  have k4 := key 4 (by decide)
  refine ⟨?_, ?_, ?_, ?_, ?_⟩
  · show upN v _ a (5 + 0 + 5 * j) < 6
    rw [k0]; split
    · next q => exact ha.1 q.2.symm
    · exact a1
  · show upN v _ a (5 + 1 + 5 * j) < 16
    rw [k1]; split
    · next q => exact ha.2.1 q.2.symm
    · exact a2
  · show 1 ≤ upN v _ a (5 + 2 + 5 * j) ∧ upN v _ a (5 + 2 + 5 * j) ≤ 4
    rw [k2]; split
    · next q => exact ha.2.2.1 q.2.symm
    · exact a3
  · show upN v _ a (5 + 3 + 5 * j) < 2
    rw [k3]; split
    · next q => exact ha.2.2.2.1 q.2.symm
    · exact a4
  · show upN v _ a (5 + 4 + 5 * j) < 2
    rw [k4]; split
    · next q => exact ha.2.2.2.2 q.2.symm
    · exact a5
theorem WF.lick {v : Nat → Nat} {n B p : Nat} (h : WF v n B) (hp : p < 16) (hm : v 4 / 2 ^ p % 2 = 1 ∨ pcN (v 4) < 8) : WF (upN v 4 (v 4 ^^^ 2 ^ p)) n B := by
  obtain ⟨h1, h2, h3, h4, h5, h6, h7, h8⟩ := h
  have e0 : ∀ x, x ≠ 4 → upN v 4 (v 4 ^^^ 2 ^ p) x = v x := fun x hx => upN_n _ _ hx
  have hp2 : 2 ^ p < 2 ^ 16 := Nat.pow_lt_pow_right (by decide) hp
  have hx := pc_xor (x := v 4) hp
  refine ⟨by rw [e0 1 (by decide)]; exact h1, h2, by rw [e0 2 (by decide)]; exact h3, by rw [upN_s]; exact Nat.xor_lt_two_pow (n := 16) h4 hp2, by rw [upN_s]; omega, by rw [e0 0 (by decide)]; exact h6, by rw [e0 0 (by decide)]; exact h7, ?_⟩
  intro j hj
  obtain ⟨a1, a2, a3, a4, a5⟩ := h8 j hj
  refine ⟨?_, ?_, ?_, ?_, ?_⟩
  · show upN v _ _ (5 + 5 * j) < 6
    rw [e0 _ (by omega)]; exact a1
  · show upN v _ _ (6 + 5 * j) < 16
    rw [e0 _ (by omega)]; exact a2
  · show 1 ≤ upN v _ _ (7 + 5 * j) ∧ upN v _ _ (7 + 5 * j) ≤ 4
    rw [e0 _ (by omega)]; exact a3
  · show upN v _ _ (8 + 5 * j) < 2
    rw [e0 _ (by omega)]; exact a4
  · show upN v _ _ (9 + 5 * j) < 2
    rw [e0 _ (by omega)]; exact a5
theorem spV_WF {v : Nat → Nat} {n B what i place : Nat} (h : WF v n B) (hi : i < n) (hp : place < 16) : WF (spV what i place v) n (B + 1) := by
  obtain ⟨-, -, -, hd, hl⟩ := h.2.2.2.2.2.2.2 i hi
  unfold spV
  split
  · exact paV_WF h
  split
  · exact (h.upP hi (o := 1) (by decide) ⟨by omega, fun _ => hp, by omega, by omega, by omega⟩).mono (by omega)
  split
  · exact (h.upP hi (o := 3) (a := 1 - dnV v i) (by decide) ⟨by omega, by omega, by omega, fun _ => by omega, by omega⟩).mono (by omega)
  split
  · exact (h.upP hi (o := 4) (a := 1 - lfV v i) (by decide) ⟨by omega, by omega, by omega, by omega, fun _ => by omega⟩).mono (by omega)
  split
  · next hm => exact (h.lick hp hm).mono (by omega)
  · exact h.mono (by omega)
theorem liV_pa {v : Nat → Nat} {n : Nat} (h1 : v 1 = n) (h1' : fallK v n 1 = n) : liV (paV v) = liV (fallK v n) := by
  have e : ∀ x, x ≠ 2 → x ≠ 3 → paV v x = fallK v n x := fun x a b => by unfold paV; rw [upN_n _ _ a, upN_n _ _ b, h1]
  have hco : ∀ k, coV (paV v) 0 k = coV (fallK v n) 0 k := by
    intro k
    refine orN_cong (fun j _ => ?_)
    have q0 : kdV (paV v) j = kdV (fallK v n) j := e _ (by omega) (by omega)
    have q1 : isV (paV v) j = isV (fallK v n) j := e _ (by omega) (by omega)
    have q2 : lnV (paV v) j = lnV (fallK v n) j := e _ (by omega) (by omega)
    have q3 : dnV (paV v) j = dnV (fallK v n) j := e _ (by omega) (by omega)
    have q4 : lfV (paV v) j = lfV (fallK v n) j := e _ (by omega) (by omega)
    simp only [cvV, q0, q1, q2, q3, q4]
  unfold liV cdV
  rw [e 0 (by decide) (by decide), e 1 (by decide) (by decide), e 4 (by decide) (by decide), hco]
section
variable {size need lifted licked morning tally : Int32} {kinds places lengths downs covers : Nat → Int32} {v : Nat → Nat} {n B : Nat}
theorem lfN_cong {u v : Nat → Nat} {n : Nat} (h : ∀ i, i < n → lfV u i = lfV v i) : lfN u n = lfN v n := sumN_cong (fun j hj => by rw [h j hj])
theorem c_settle (hs : SL size need lifted licked morning tally kinds places lengths downs covers v n) (hw : WF v n B) {i p d : Nat} (hi : i < n) (hp : p < 16) (hd : d < 2) :
    ∃ pl dn cv, fX3_settle size kinds places lengths downs covers (nI i) (nI p) (nI d) = some (pl, dn, cv) ∧ SL size need lifted licked morning tally kinds pl lengths dn cv (upN (upN v (6 + 5 * i) p) (8 + 5 * i) d) n := by
  have hn6 := hw.2.1
  obtain ⟨s1, s2, s3, s4, s5, s6, s7⟩ := hs
  obtain ⟨k0, k1, k2, k3, k4⟩ := s7 i hi
  obtain ⟨b0, b1, b2, b3, b4⟩ := hw.2.2.2.2.2.2.2 i hi
  refine ⟨upd places i (nI p), upd downs i (nI d), upd covers i (nI (covN (kdV v i) p (lnV v i) d)), ?_, ?_⟩
  · unfold fX3_settle
    rw [s1, c_has hn6 hi, bd1_s, if_neg one_ne, t6 (by omega), bd1_s, t6 (by omega), bd1_s, a6 (by omega), bd1_s, a6 (by omega), bd1_s, k0, k2, (cov_ok b0 hp b2 hd).1, bd1_s, t6 (by omega), bd1_s]
  · have e0 : ∀ x, x < 5 → upN (upN v (6 + 5 * i) p) (8 + 5 * i) d x = v x := fun x hx => by rw [upN_n _ _ (by omega), upN_n _ _ (by omega)]
    have ek : ∀ j, kdV (upN (upN v (6 + 5 * i) p) (8 + 5 * i) d) j = kdV v j := fun j => by unfold kdV; rw [upN_n _ _ (by omega), upN_n _ _ (by omega)]
    have el : ∀ j, lnV (upN (upN v (6 + 5 * i) p) (8 + 5 * i) d) j = lnV v j := fun j => by unfold lnV; rw [upN_n _ _ (by omega), upN_n _ _ (by omega)]
    have ef : ∀ j, lfV (upN (upN v (6 + 5 * i) p) (8 + 5 * i) d) j = lfV v j := fun j => by unfold lfV; rw [upN_n _ _ (by omega), upN_n _ _ (by omega)]
    have ei : ∀ j, isV (upN (upN v (6 + 5 * i) p) (8 + 5 * i) d) j = if j = i then p else isV v j := fun j => by
      unfold isV
      rw [upN_n _ _ (by omega)]
      by_cases e : j = i
      · subst e; rw [upN_s, if_pos rfl]
      · rw [upN_n _ _ (by omega), if_neg e]
    have ed : ∀ j, dnV (upN (upN v (6 + 5 * i) p) (8 + 5 * i) d) j = if j = i then d else dnV v j := fun j => by
      unfold dnV
      by_cases e : j = i
      · subst e; rw [upN_s, if_pos rfl]
      · rw [upN_n _ _ (by omega), upN_n _ _ (by omega), if_neg e]
    refine ⟨s1, by rw [e0 0 (by decide)]; exact s2, by rw [lfN_cong (v := v) (fun j _ => ef j)]; exact s3, by rw [e0 4 (by decide)]; exact s4, by rw [e0 2 (by decide)]; exact s5, by rw [e0 3 (by decide)]; exact s6, ?_⟩
    intro j hj
    obtain ⟨j0, j1, j2, j3, j4⟩ := s7 j hj
    by_cases e : j = i
    · subst e
      refine ⟨by rw [ek]; exact j0, by rw [ei, if_pos rfl, upd_s], by rw [el]; exact j2, by rw [ed, if_pos rfl, upd_s], ?_⟩
      unfold cvV
      rw [upd_s, ek, ei, if_pos rfl, el, ed, if_pos rfl]
    · refine ⟨by rw [ek]; exact j0, by rw [ei, if_neg e, upd_n _ _ e]; exact j1, by rw [el]; exact j2, by rw [ed, if_neg e, upd_n _ _ e]; exact j3, ?_⟩
      unfold cvV
      rw [upd_n _ _ e, ek, ei, if_neg e, el, ed, if_neg e]
      exact j4
/-- one peel falls, in the class -/
theorem c_fall1 {u : Nat → Nat} (hs : SL size need lifted licked morning tally kinds places lengths downs covers u n) (hw : WF u n B) (hB : B < 2 ^ 20) {k : Nat} (hk : k < n) {t : Int32} (ht : t = if u 2 % 3 = 2 then 1 else 0) (rec : (Nat → Int32) → (Nat → Int32) → (Nat → Int32) → Int32 → Option ((Nat → Int32) × (Nat → Int32) × (Nat → Int32))) :
    ∃ pl dn cv, SL size need lifted licked morning tally kinds pl lengths dn cv (fallS u k) n ∧ fX3_fall_B18 size lifted morning kinds lengths t rec places downs covers (nI k) = rec pl dn cv (nI (k + 1)) := by
  have hn6 := hw.2.1
  obtain ⟨s1, s2, s3, s4, s5, s6, s7⟩ := id hs
  subst s1 s3 s5
  obtain ⟨k0, k1, k2, k3, k4⟩ := s7 k hk
  obtain ⟨b0, b1, b2, b3, b4⟩ := hw.2.2.2.2.2.2.2 k hk
  have c6 : ¬ (6 : Int32) ≤ nI k := nI_ge (a := k) (b := 6) (by omega) (by decide)
  have hB2 := hw.2.2.1
  unfold fX3_fall_B18
  rw [if_neg (nI_ge hk (by omega)), if_neg c6, c_isLifted hw hk, bd1_s]
  by_cases cl : lfV u k = 0
  · rw [if_pos (by rw [cl]; rfl), a6 (by omega), bd1_s, a6 (by omega), bd1_s, k1, k2]
    have e1 : (5 : Int32) * nI (isV u k) = nI (5 * isV u k) := nI_mul 5 _
    have e2 : nI (5 * isV u k + lnV u k + u 2) - nI (5 * isV u k + lnV u k + u 2) / 16 * 16 = nI ((5 * isV u k + lnV u k + u 2) % 16) := pk_rem (d := 16) (by omega) (by decide) (by decide)
    rw [e1, nI_add, nI_add, e2]
    have hd2 : (if u 2 % 3 = 2 then 1 - dnV u k else dnV u k) < 2 := by split <;> omega
    obtain ⟨pl, dn, cv, hq, hS⟩ := c_settle hs hw (i := k) (p := (5 * isV u k + lnV u k + u 2) % 16) (d := if u 2 % 3 = 2 then 1 - dnV u k else dnV u k) hk (by omega) hd2
    refine ⟨pl, dn, cv, ?_, ?_⟩
    · unfold fallS
      rw [if_pos cl]
      exact hS
    · have hend : fX3_fall_j88 rec (nI n) (nI (lfN u n)) (nI (u 2)) kinds places lengths downs covers t (nI k) (nI k) (nI ((5 * isV u k + lnV u k + u 2) % 16)) (nI (if u 2 % 3 = 2 then 1 - dnV u k else dnV u k)) = rec pl dn cv (nI (k + 1)) := by
        unfold fX3_fall_j88 fX3_fall_j91
        rw [hq, bd3_s, nI_1]
      by_cases c3 : u 2 % 3 = 2
      · rw [if_pos c3] at ht hend
        rw [ht, if_neg one_ne, a6 (by omega), bd1_s, k3]
        have e4 : (1 : Int32) - nI (dnV u k) = nI (1 - dnV u k) := nI_sub (a := 1) (by omega)
        rw [e4]
        rw [ht] at hend
        exact hend
      · rw [if_neg c3] at ht hend
        rw [ht, if_pos rfl, a6 (by omega), bd1_s, k3]
        rw [ht] at hend
        exact hend
  · rw [if_neg (fun q => cl ((nI_eq0 (by omega)).mp q))]
    refine ⟨places, downs, covers, ?_, ?_⟩
    · unfold fallS
      rw [if_neg cl]
      exact hs
    · unfold fX3_fall_j91
      rw [nI_1]
theorem fallK_2 (v : Nat → Nat) : ∀ k, fallK v k 2 = v 2
  | 0 => rfl
  | k + 1 => by rw [fallK, fallS_ne (by omega) (by omega), fallK_2 v k]
theorem c_fall_L (hw : WF v n B) (hB : B < 2 ^ 20) {t : Int32} (ht : t = if v 2 % 3 = 2 then 1 else 0) : ∀ (m k fuel : Nat) (places downs covers : Nat → Int32), SL size need lifted licked morning tally kinds places lengths downs covers (fallK v k) n → k + m = n → m < fuel →
    ∃ pl dn cv, SL size need lifted licked morning tally kinds pl lengths dn cv (fallK v n) n ∧ fX3_fall_L18 size lifted morning kinds lengths t fuel places downs covers (nI k) = some (pl, dn, cv) := by
  have hn6 := hw.2.1
  intro m
  induction m with
  | zero =>
    intro k fuel places downs covers hs h1 h2
    obtain ⟨f, rfl⟩ : ∃ f, fuel = f + 1 := ⟨fuel - 1, by omega⟩
    have hk : k = n := by omega
    subst hk
    refine ⟨places, downs, covers, hs, ?_⟩
    show fX3_fall_B18 _ _ _ _ _ _ _ _ _ _ _ = _
    unfold fX3_fall_B18
    rw [hs.1, if_pos (nI_le (Nat.le_refl k) (by omega))]
  | succ m ih =>
    intro k fuel places downs covers hs h1 h2
    obtain ⟨f, rfl⟩ : ∃ f, fuel = f + 1 := ⟨fuel - 1, by omega⟩
    obtain ⟨pl, dn, cv, hs1, e1⟩ := c_fall1 hs (fallK_WF hw k (by omega)) hB (k := k) (by omega) (t := t) (by rw [fallK_2]; exact ht) (fX3_fall_L18 size lifted morning kinds lengths t f)
    obtain ⟨pl2, dn2, cv2, hs2, e2⟩ := ih (k + 1) f pl dn cv hs1 (by omega) (by omega)
    refine ⟨pl2, dn2, cv2, hs2, ?_⟩
    show fX3_fall_B18 _ _ _ _ _ _ _ _ _ _ _ = _
    rw [e1, e2]
theorem c_fall (hs : SL size need lifted licked morning tally kinds places lengths downs covers v n) (hw : WF v n B) (hB : B < 2 ^ 20) (hn : 0 < n) :
    ∃ mo ta pl dn cv, fX3_fall size need lifted licked morning tally kinds places lengths downs covers = some (mo, ta, pl, dn, cv) ∧ SL size need lifted licked mo ta kinds pl lengths dn cv (paV v) n := by
  have hn6 := hw.2.1
  have hwf := fallK_WF hw n (Nat.le_refl n)
  obtain ⟨t, ht⟩ : ∃ t : Int32, t = if v 2 % 3 = 2 then 1 else 0 := ⟨_, rfl⟩
  obtain ⟨pl, dn, cv, hs1, e1⟩ := c_fall_L hw hB ht n 0 FU places downs covers hs (by omega) (Nat.lt_of_le_of_lt hn6 (by decide))
  have e1 : fX3_fall_L18 size lifted morning kinds lengths t FU places downs covers 0 = some (pl, dn, cv) := e1
  have hli := c_linesNow hs1 hwf hn
  have hlt : liV (fallK v n) < 256 := lnsN_lt _ _
  refine ⟨morning + 1, tally + bitc (nI (liV (fallK v n))), pl, dn, cv, ?_, ?_⟩
  · have hj : fX3_fall_j15 size need lifted licked morning tally kinds places lengths downs covers t = some (morning + 1, tally + bitc (nI (liV (fallK v n))), pl, dn, cv) := by
      unfold fX3_fall_j15
      rw [e1, bd3_s, hli, bd1_s]
    unfold fX3_fall
    have e3 : morning - morning / 3 * 3 = nI (v 2 % 3) := by
      rw [hs.2.2.2.2.1]
      exact pk_rem (d := 3) (by have := hw.2.2.1; omega) (by decide) (by decide)
    rw [e3]
    by_cases c3 : v 2 % 3 = 2
    · rw [if_pos (by rw [c3]; rfl)]
      rw [if_pos c3] at ht
      rw [ht] at hj; exact hj
    · have c4 : ¬ nI (v 2 % 3) = 2 := fun q => c3 ((nI_eq (b := 2) (by omega) (by decide)).mp q)
      rw [if_neg c4]
      rw [if_neg c3] at ht
      rw [ht] at hj; exact hj
  · have e : ∀ x, x ≠ 2 → x ≠ 3 → paV v x = fallK v n x := fun x a b => by unfold paV; rw [upN_n _ _ a, upN_n _ _ b, hw.1]
    have e2 : paV v 2 = fallK v n 2 + 1 := by unfold paV; rw [upN_s, hw.1]
    have e3 : paV v 3 = fallK v n 3 + pcN (liV (fallK v n)) := by unfold paV; rw [upN_n _ _ (by decide), upN_s, hw.1]
    obtain ⟨s1, s2, s3, s4, s5, s6, s7⟩ := hs1
    have ef : ∀ j, lfV (paV v) j = lfV (fallK v n) j := fun j => e _ (by omega) (by omega)
    refine ⟨s1, by rw [e 0 (by decide) (by decide)]; exact s2, by rw [lfN_cong (fun j _ => ef j)]; exact s3, by rw [e 4 (by decide) (by decide)]; exact s4, by rw [e2, s5, nI_1], by rw [e3, s6, bitc_n (by omega), nI_add], ?_⟩
    intro j hj
    obtain ⟨j0, j1, j2, j3, j4⟩ := s7 j hj
    have q0 : kdV (paV v) j = kdV (fallK v n) j := e _ (by omega) (by omega)
    have q1 : isV (paV v) j = isV (fallK v n) j := e _ (by omega) (by omega)
    have q2 : lnV (paV v) j = lnV (fallK v n) j := e _ (by omega) (by omega)
    have q3 : dnV (paV v) j = dnV (fallK v n) j := e _ (by omega) (by omega)
    refine ⟨by rw [q0]; exact j0, by rw [q1]; exact j1, by rw [q2]; exact j2, by rw [q3]; exact j3, ?_⟩
    unfold cvV
    rw [q0, q1, q2, q3]
    exact j4
end
