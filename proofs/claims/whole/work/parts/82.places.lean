/-! ===== pure: places, kinds, next ===== -/
section
variable {items sizes rsz rit : Nat → Int32} {size need lifted licked morning tally : Int32} {kinds places lengths downs covers : Nat → Int32} {v : Nat → Nat} {n B : Nat} {now : Nat → Int32}
theorem upP_WF (hw : WF v n B) {i p : Nat} (hi : i < n) (hp : p < 16) : WF (upN v (6 + 5 * i) p) n B := hw.upP (o := 1) hi (by decide) ⟨fun z => absurd z (by decide), fun _ => hp, fun z => absurd z (by decide), fun z => absurd z (by decide), fun z => absurd z (by decide)⟩
theorem upK_WF (hw : WF v n B) {i p : Nat} (hi : i < n) (hp : p < 6) : WF (upN v (5 + 5 * i) p) n B := hw.upP (o := 0) hi (by decide) ⟨fun _ => hp, fun z => absurd z (by decide), fun z => absurd z (by decide), fun z => absurd z (by decide), fun z => absurd z (by decide)⟩
/-- which places fit -/
def fpN (v : Nat → Nat) (f : Nat → Int32) (k i p : Nat) : Nat := fitN (upN v (6 + 5 * i) p) f k
def fkN (v : Nat → Nat) (f : Nat → Int32) (k i p : Nat) : Nat := fitN (upN v (5 + 5 * i) p) f k
theorem c_places_L (hs : SL size need lifted licked morning tally kinds places lengths downs covers v n) (hw : WF v n B) (hB : B ≤ 40) {i : Nat} (hi : i < n) {r k : Nat} (hr : r < 6) (hk : k ≤ 40) (s1 : sizes r = nI k) : ∀ (m p fuel : Nat) (a1 a2 a3 a4 a5 a6' : Int32) (b1 b2 b3 b4 b5 : Nat → Int32), p + m = 16 → m < fuel →
    ∃ sz nd lf lk mo ta kn pl ln dn cv, fX4_fittingPlaces_L5 items sizes size need lifted licked morning tally kinds places lengths downs covers (nI i) (nI r) fuel a1 a2 a3 a4 a5 a6' b1 b2 b3 b4 b5 (nI (orB (fpN v (fun j => items (40 * r + j)) k i) p)) (nI p) = some (sz, nd, lf, lk, mo, ta, kn, pl, ln, dn, cv, nI (orB (fpN v (fun j => items (40 * r + j)) k i) 16)) := by
  have hn6 := hw.2.1
  intro m
  induction m with
  | zero =>
    intro p fuel a1 a2 a3 a4 a5 a6' b1 b2 b3 b4 b5 h1 h2
    obtain ⟨f, rfl⟩ : ∃ f, fuel = f + 1 := ⟨fuel - 1, by omega⟩
    have hp : p = 16 := by omega
    subst hp
    exact ⟨_, _, _, _, _, _, _, _, _, _, _, by show fX4_fittingPlaces_B5 _ _ _ _ _ _ _ _ _ _ _ _ _ _ _ _ _ _ _ _ _ _ _ _ _ _ _ _ _ = _; unfold fX4_fittingPlaces_B5; rw [if_pos (by decide)]⟩
  | succ m ih =>
    intro p fuel a1 a2 a3 a4 a5 a6' b1 b2 b3 b4 b5 h1 h2
    obtain ⟨f, rfl⟩ : ∃ f, fuel = f + 1 := ⟨fuel - 1, by omega⟩
    obtain ⟨k1, p1, l1, d1, v1, et, hT⟩ := c_take b1 b2 b3 b4 b5 (o_size := size) (o_need := need) (o_lifted := lifted) (o_licked := licked) (o_morning := morning) (o_tally := tally) (o_kinds := kinds) (o_places := places) (o_lengths := lengths) (o_downs := downs) (o_covers := covers)
    obtain ⟨pl, dn, cv, es, hS⟩ := c_settleP (hT v n hn6 hs) hw hi (p := p) (by omega)
    obtain ⟨mo', ta', pl', dn', cv', ef⟩ := c_fits (items := items) (sizes := sizes) hS (upP_WF hw hi (by omega)) (by omega) (by omega) hr hk s1
    have ef : fX4_asideFits items sizes size need lifted licked morning tally k1 pl l1 dn cv (nI r) = some (nI (fpN v (fun j => items (40 * r + j)) k i p), mo', ta', pl', dn', cv') := ef
    have c16 : ¬ (16 : Int32) ≤ nI p := nI_ge (a := p) (b := 16) (by omega) (by decide)
    have u4 : ∀ x3, fX4_fittingPlaces_L5 items sizes size need lifted licked morning tally kinds places lengths downs covers (nI i) (nI r) (f + 1) a1 a2 a3 a4 a5 a6' b1 b2 b3 b4 b5 x3 (nI p) = fX4_fittingPlaces_B5 items sizes size need lifted licked morning tally kinds places lengths downs covers (nI i) (nI r) (fX4_fittingPlaces_L5 items sizes size need lifted licked morning tally kinds places lengths downs covers (nI i) (nI r) f) a1 a2 a3 a4 a5 a6' b1 b2 b3 b4 b5 x3 (nI p) := fun _ => rfl
    obtain ⟨q1, q2, q3, q4, q5, q6, q7, q8, q9, q10, q11, hq⟩ := ih (p + 1) f size need lifted licked mo' ta' k1 pl' l1 dn' cv' (by omega) (by omega)
    refine ⟨q1, q2, q3, q4, q5, q6, q7, q8, q9, q10, q11, ?_⟩
    rw [u4]
    unfold fX4_fittingPlaces_B5
    rw [if_neg c16, et, bd11_s, c_downOf hs hw hi, bd1_s, es, bd3_s, ef, bd6_s]
    rcases fitN_01 (upN v (6 + 5 * i) p) (fun j => items (40 * r + j)) k with c | c
    · have c : fpN v (fun j => items (40 * r + j)) k i p = 0 := c
      rw [c, if_pos (by decide)]
      unfold fX4_fittingPlaces_j56
      rw [nI_1]
      rw [orB_0 (by rw [c]; decide)] at hq
      exact hq
    · have c : fpN v (fun j => items (40 * r + j)) k i p = 1 := c
      rw [c, if_neg (by decide)]
      unfold fX4_fittingPlaces_j56
      rw [nI_1, sh1 (by omega), n_or]
      rw [orB_1 c] at hq
      exact hq
theorem m_places_L (ha : AR now v) (hw : WF v n B) (hB : B ≤ 40) {i : Nat} (hi : i < n) {r k : Nat} (hr : r < 6) (hk : k ≤ 40) (s2 : rsz r = nI k) : ∀ (m p fuel : Nat) (t : Nat → Int32), p + m = 16 → m < fuel →
    ∃ t', fX5_places_L39 rsz rit now (nI i) (nI r) fuel t (nI (orB (fpN v (fun j => rit (40 * r + j)) k i) p)) (nI p) = some (t', nI (orB (fpN v (fun j => rit (40 * r + j)) k i) 16)) := by
  have hn6 := hw.2.1
  intro m
  induction m with
  | zero =>
    intro p fuel t h1 h2
    obtain ⟨f, rfl⟩ : ∃ f, fuel = f + 1 := ⟨fuel - 1, by omega⟩
    have hp : p = 16 := by omega
    subst hp
    exact ⟨t, by show fX5_places_B39 _ _ _ _ _ _ _ _ _ = _; unfold fX5_places_B39; rw [if_pos (by decide)]⟩
  | succ m ih =>
    intro p fuel t h1 h2
    obtain ⟨f, rfl⟩ : ∃ f, fuel = f + 1 := ⟨fuel - 1, by omega⟩
    obtain ⟨t1, e1, -⟩ := m_fits (rsz := rsz) (rit := rit) ha (i := i) (o := 1) (a := p) (by omega) (by decide) (upP_WF hw hi (by omega)) (by omega) hr hk s2 t
    have e1 : fX5_isReadSo rsz rit now t (nI r) (nI i) 1 (nI p) = some (nI (fpN v (fun j => rit (40 * r + j)) k i p), t1) := e1
    have c16 : ¬ (16 : Int32) ≤ nI p := nI_ge (a := p) (b := 16) (by omega) (by decide)
    obtain ⟨t2, hq⟩ := ih (p + 1) f t1 (by omega) (by omega)
    refine ⟨t2, ?_⟩
    show fX5_places_B39 _ _ _ _ _ _ _ _ _ = _
    unfold fX5_places_B39
    rw [if_neg c16, e1, bd2_s]
    rcases fitN_01 (upN v (6 + 5 * i) p) (fun j => rit (40 * r + j)) k with c | c
    · have c : fpN v (fun j => rit (40 * r + j)) k i p = 0 := c
      rw [c, if_pos (by decide)]
      unfold fX5_places_j68
      have e0 : nI (orB (fpN v (fun j => rit (40 * r + j)) k i) p) ||| 0 = nI (orB (fpN v (fun j => rit (40 * r + j)) k i) p ||| 0) := n_or _ 0
      rw [nI_1, e0, Nat.or_zero]
      rw [orB_0 (by rw [c]; decide)] at hq
      exact hq
    · have c : fpN v (fun j => rit (40 * r + j)) k i p = 1 := c
      rw [c, if_neg (by decide)]
      unfold fX5_places_j68
      rw [nI_1, sh1 (by omega), n_or]
      rw [orB_1 c] at hq
      exact hq
theorem c_kinds_L (hs : SL size need lifted licked morning tally kinds places lengths downs covers v n) (hw : WF v n B) (hB : B ≤ 40) {i : Nat} (hi : i < n) {r k : Nat} (hr : r < 6) (hk : k ≤ 40) (s1 : sizes r = nI k) : ∀ (m p fuel : Nat) (a1 a2 a3 a4 a5 a6' : Int32) (b1 b2 b3 b4 b5 : Nat → Int32), p + m = 6 → m < fuel →
    ∃ sz nd lf lk mo ta kn pl ln dn cv, fX4_fittingKinds_L5 items sizes size need lifted licked morning tally kinds places lengths downs covers (nI i) (nI r) fuel a1 a2 a3 a4 a5 a6' b1 b2 b3 b4 b5 (nI (orB (fkN v (fun j => items (40 * r + j)) k i) p)) (nI p) = some (sz, nd, lf, lk, mo, ta, kn, pl, ln, dn, cv, nI (orB (fkN v (fun j => items (40 * r + j)) k i) 6)) := by
  have hn6 := hw.2.1
  intro m
  induction m with
  | zero =>
    intro p fuel a1 a2 a3 a4 a5 a6' b1 b2 b3 b4 b5 h1 h2
    obtain ⟨f, rfl⟩ : ∃ f, fuel = f + 1 := ⟨fuel - 1, by omega⟩
    have hp : p = 6 := by omega
    subst hp
    exact ⟨_, _, _, _, _, _, _, _, _, _, _, by show fX4_fittingKinds_B5 _ _ _ _ _ _ _ _ _ _ _ _ _ _ _ _ _ _ _ _ _ _ _ _ _ _ _ _ _ = _; unfold fX4_fittingKinds_B5; rw [if_pos (by decide)]⟩
  | succ m ih =>
    intro p fuel a1 a2 a3 a4 a5 a6' b1 b2 b3 b4 b5 h1 h2
    obtain ⟨f, rfl⟩ : ∃ f, fuel = f + 1 := ⟨fuel - 1, by omega⟩
    obtain ⟨k1, p1, l1, d1, v1, et, hT⟩ := c_take b1 b2 b3 b4 b5 (o_size := size) (o_need := need) (o_lifted := lifted) (o_licked := licked) (o_morning := morning) (o_tally := tally) (o_kinds := kinds) (o_places := places) (o_lengths := lengths) (o_downs := downs) (o_covers := covers)
    obtain ⟨kn, cv, es, hS⟩ := c_setKind (hT v n hn6 hs) hw hi (kd := p) (by omega)
    obtain ⟨mo', ta', pl', dn', cv', ef⟩ := c_fits (items := items) (sizes := sizes) hS (upK_WF hw hi (by omega)) (by omega) (by omega) hr hk s1
    have ef : fX4_asideFits items sizes size need lifted licked morning tally kn p1 l1 d1 cv (nI r) = some (nI (fkN v (fun j => items (40 * r + j)) k i p), mo', ta', pl', dn', cv') := ef
    have c16 : ¬ (6 : Int32) ≤ nI p := nI_ge (a := p) (b := 6) (by omega) (by decide)
    have u4 : ∀ x3, fX4_fittingKinds_L5 items sizes size need lifted licked morning tally kinds places lengths downs covers (nI i) (nI r) (f + 1) a1 a2 a3 a4 a5 a6' b1 b2 b3 b4 b5 x3 (nI p) = fX4_fittingKinds_B5 items sizes size need lifted licked morning tally kinds places lengths downs covers (nI i) (nI r) (fX4_fittingKinds_L5 items sizes size need lifted licked morning tally kinds places lengths downs covers (nI i) (nI r) f) a1 a2 a3 a4 a5 a6' b1 b2 b3 b4 b5 x3 (nI p) := fun _ => rfl
    obtain ⟨q1, q2, q3, q4, q5, q6, q7, q8, q9, q10, q11, hq⟩ := ih (p + 1) f size need lifted licked mo' ta' kn pl' l1 dn' cv' (by omega) (by omega)
    refine ⟨q1, q2, q3, q4, q5, q6, q7, q8, q9, q10, q11, ?_⟩
    rw [u4]
    unfold fX4_fittingKinds_B5
    rw [if_neg c16, et, bd11_s, es, bd2_s, ef, bd6_s]
    rcases fitN_01 (upN v (5 + 5 * i) p) (fun j => items (40 * r + j)) k with c | c
    · have c : fkN v (fun j => items (40 * r + j)) k i p = 0 := c
      rw [c, if_pos (by decide)]
      unfold fX4_fittingKinds_j48
      rw [nI_1]
      rw [orB_0 (by rw [c]; decide)] at hq
      exact hq
    · have c : fkN v (fun j => items (40 * r + j)) k i p = 1 := c
      rw [c, if_neg (by decide)]
      unfold fX4_fittingKinds_j48
      rw [nI_1, sh1 (by omega), n_or]
      rw [orB_1 c] at hq
      exact hq
theorem m_kinds_L (ha : AR now v) (hw : WF v n B) (hB : B ≤ 40) {i : Nat} (hi : i < n) {r k : Nat} (hr : r < 6) (hk : k ≤ 40) (s2 : rsz r = nI k) : ∀ (m p fuel : Nat) (t : Nat → Int32), p + m = 6 → m < fuel →
    ∃ t', fX5_kinds_L39 rsz rit now (nI i) (nI r) fuel t (nI (orB (fkN v (fun j => rit (40 * r + j)) k i) p)) (nI p) = some (t', nI (orB (fkN v (fun j => rit (40 * r + j)) k i) 6)) := by
  have hn6 := hw.2.1
  intro m
  induction m with
  | zero =>
    intro p fuel t h1 h2
    obtain ⟨f, rfl⟩ : ∃ f, fuel = f + 1 := ⟨fuel - 1, by omega⟩
    have hp : p = 6 := by omega
    subst hp
    exact ⟨t, by show fX5_kinds_B39 _ _ _ _ _ _ _ _ _ = _; unfold fX5_kinds_B39; rw [if_pos (by decide)]⟩
  | succ m ih =>
    intro p fuel t h1 h2
    obtain ⟨f, rfl⟩ : ∃ f, fuel = f + 1 := ⟨fuel - 1, by omega⟩
    obtain ⟨t1, e1, -⟩ := m_fits (rsz := rsz) (rit := rit) ha (i := i) (o := 0) (a := p) (by omega) (by decide) (upK_WF hw hi (by omega)) (by omega) hr hk s2 t
    have e1 : fX5_isReadSo rsz rit now t (nI r) (nI i) 0 (nI p) = some (nI (fkN v (fun j => rit (40 * r + j)) k i p), t1) := e1
    have c16 : ¬ (6 : Int32) ≤ nI p := nI_ge (a := p) (b := 6) (by omega) (by decide)
    obtain ⟨t2, hq⟩ := ih (p + 1) f t1 (by omega) (by omega)
    refine ⟨t2, ?_⟩
    show fX5_kinds_B39 _ _ _ _ _ _ _ _ _ = _
    unfold fX5_kinds_B39
    rw [if_neg c16, e1, bd2_s]
    rcases fitN_01 (upN v (5 + 5 * i) p) (fun j => rit (40 * r + j)) k with c | c
    · have c : fkN v (fun j => rit (40 * r + j)) k i p = 0 := c
      rw [c, if_pos (by decide)]
      unfold fX5_kinds_j68
      have e0 : nI (orB (fkN v (fun j => rit (40 * r + j)) k i) p) ||| 0 = nI (orB (fkN v (fun j => rit (40 * r + j)) k i) p ||| 0) := n_or _ 0
      rw [nI_1, e0, Nat.or_zero]
      rw [orB_0 (by rw [c]; decide)] at hq
      exact hq
    · have c : fkN v (fun j => rit (40 * r + j)) k i p = 1 := c
      rw [c, if_neg (by decide)]
      unfold fX5_kinds_j68
      rw [nI_1, sh1 (by omega), n_or]
      rw [orB_1 c] at hq
      exact hq
theorem fl_places (hs : SL size need lifted licked morning tally kinds places lengths downs covers v n) (hw : WF v n B) (hB : B ≤ 40) (ha : AR now v) (hR : RW 6 40 (fun _ => True) sizes items rsz rit) (fi : Int32) {F4 F5 : Nat → Int32} (hF : ∀ j, j < 6 → F4 j = F5 j) (a1 a2 a3 a4 a5 a6' : Int32) (b1 b2 b3 b4 b5 tried : Nat → Int32) (x1 x2 : Int32) :
    ∃ r fi' sz nd lf lk mo ta kn pl ln dn cv F4' t F5', fX4_places fi items sizes size need lifted licked morning tally kinds places lengths downs covers a1 a2 a3 a4 a5 a6' b1 b2 b3 b4 b5 F4 x1 x2 = some (r, fi', sz, nd, lf, lk, mo, ta, kn, pl, ln, dn, cv, F4') ∧ fX5_places fi rsz rit now tried F5 x1 x2 = some (r, fi', t, F5') ∧ ∀ j, j < 6 → F4' j = F5' j := by
  have hn6 := hw.2.1
  rcases spl x1 (k := n) (by omega) with ⟨i, hi, rfl⟩ | hx
  rotate_left
  · exact ⟨_, _, _, _, _, _, _, _, _, _, _, _, _, _, _, _, by unfold fX4_places; rw [c_has0 hs hx, bd1_s, if_pos rfl], by unfold fX5_places; rw [m_isPeel0 ha hw hx, bd1_s, if_pos rfl], hF⟩
  rcases spl x2 (k := 6) (by decide) with ⟨r, hr, rfl⟩ | hx
  rotate_left
  · exact ⟨_, _, _, _, _, _, _, _, _, _, _, _, _, _, _, _, by unfold fX4_places; rw [c_has1 hs hw hi, bd1_s, if_neg one_ne, (row_out hx).1, bd1_s, if_pos rfl], by unfold fX5_places; rw [m_isPeel1 ha hw hi, bd1_s, if_neg one_ne, (row_out hx).2, bd1_s, if_pos rfl], hF⟩
  rcases flaw_eq hR hr with ⟨f, f1, f5, g4, g5⟩ | ⟨k, k1, k10, s1, s2, he, g4, g5⟩
  · have n1 : ¬ nI f = 0 := nI_ne0 (by omega) (by omega)
    have n2 : ¬ nI f ≤ 0 := nI_nle (by omega) (by omega)
    exact ⟨_, _, _, _, _, _, _, _, _, _, _, _, _, _, _, _, by unfold fX4_places; rw [c_has1 hs hw hi, bd1_s, if_neg one_ne, (row_in r hr).1, bd1_s, if_neg one_ne, g4, bd1_s, if_neg n1, (find_n F4 f1 f5).1, bd3_s], by unfold fX5_places; rw [m_isPeel1 ha hw hi, bd1_s, if_neg one_ne, (row_in r hr).2, bd1_s, if_neg one_ne, g5, bd1_s, if_neg n2, (find_n F5 f1 f5).2, bd3_s], upd_eq6 hF (by omega)⟩
  obtain ⟨sz, nd, lf, lk, mo, ta, kn, pl, ln, dn, cv, e4⟩ := c_places_L (items := items) (sizes := sizes) hs hw hB hi hr (k := k) (by omega) s1 16 0 FU a1 a2 a3 a4 a5 a6' b1 b2 b3 b4 b5 (by omega) (by decide)
  obtain ⟨t, e5⟩ := m_places_L (rsz := rsz) (rit := rit) ha hw hB hi hr (k := k) (by omega) s2 16 0 FU tried (by omega) (by decide)
  have ef : fpN v (fun j => items (40 * r + j)) k i = fpN v (fun j => rit (40 * r + j)) k i := by
    funext p
    exact fitN_cong he
  rw [ef] at e4
  have e4 : fX4_fittingPlaces_L5 items sizes size need lifted licked morning tally kinds places lengths downs covers (nI i) (nI r) FU a1 a2 a3 a4 a5 a6' b1 b2 b3 b4 b5 0 0 = _ := e4
  have e5 : fX5_places_L39 rsz rit now (nI i) (nI r) FU tried 0 0 = _ := e5
  have e4' : fX4_fittingPlaces items sizes size need lifted licked morning tally kinds places lengths downs covers a1 a2 a3 a4 a5 a6' b1 b2 b3 b4 b5 (nI i) (nI r) = some (nI (orB (fpN v (fun j => rit (40 * r + j)) k i) 16), sz, nd, lf, lk, mo, ta, kn, pl, ln, dn, cv) := by
    unfold fX4_fittingPlaces
    rw [e4, bd12_s]
  exact ⟨_, _, _, _, _, _, _, _, _, _, _, _, _, _, _, _, by unfold fX4_places; rw [c_has1 hs hw hi, bd1_s, if_neg one_ne, (row_in r hr).1, bd1_s, if_neg one_ne, g4, bd1_s, if_pos rfl, e4', bd12_s], by unfold fX5_places; rw [m_isPeel1 ha hw hi, bd1_s, if_neg one_ne, (row_in r hr).2, bd1_s, if_neg one_ne, g5, bd1_s, if_pos (by decide), e5, bd2_s], hF⟩
theorem fl_kinds (hs : SL size need lifted licked morning tally kinds places lengths downs covers v n) (hw : WF v n B) (hB : B ≤ 40) (ha : AR now v) (hR : RW 6 40 (fun _ => True) sizes items rsz rit) (fi : Int32) {F4 F5 : Nat → Int32} (hF : ∀ j, j < 6 → F4 j = F5 j) (a1 a2 a3 a4 a5 a6' : Int32) (b1 b2 b3 b4 b5 tried : Nat → Int32) (x1 x2 : Int32) :
    ∃ r fi' sz nd lf lk mo ta kn pl ln dn cv F4' t F5', fX4_kinds fi items sizes size need lifted licked morning tally kinds places lengths downs covers a1 a2 a3 a4 a5 a6' b1 b2 b3 b4 b5 F4 x1 x2 = some (r, fi', sz, nd, lf, lk, mo, ta, kn, pl, ln, dn, cv, F4') ∧ fX5_kinds fi rsz rit now tried F5 x1 x2 = some (r, fi', t, F5') ∧ ∀ j, j < 6 → F4' j = F5' j := by
  have hn6 := hw.2.1
  rcases spl x1 (k := n) (by omega) with ⟨i, hi, rfl⟩ | hx
  rotate_left
  · exact ⟨_, _, _, _, _, _, _, _, _, _, _, _, _, _, _, _, by unfold fX4_kinds; rw [c_has0 hs hx, bd1_s, if_pos rfl], by unfold fX5_kinds; rw [m_isPeel0 ha hw hx, bd1_s, if_pos rfl], hF⟩
  rcases spl x2 (k := 6) (by decide) with ⟨r, hr, rfl⟩ | hx
  rotate_left
  · exact ⟨_, _, _, _, _, _, _, _, _, _, _, _, _, _, _, _, by unfold fX4_kinds; rw [c_has1 hs hw hi, bd1_s, if_neg one_ne, (row_out hx).1, bd1_s, if_pos rfl], by unfold fX5_kinds; rw [m_isPeel1 ha hw hi, bd1_s, if_neg one_ne, (row_out hx).2, bd1_s, if_pos rfl], hF⟩
  rcases flaw_eq hR hr with ⟨f, f1, f5, g4, g5⟩ | ⟨k, k1, k10, s1, s2, he, g4, g5⟩
  · have n1 : ¬ nI f = 0 := nI_ne0 (by omega) (by omega)
    have n2 : ¬ nI f ≤ 0 := nI_nle (by omega) (by omega)
    exact ⟨_, _, _, _, _, _, _, _, _, _, _, _, _, _, _, _, by unfold fX4_kinds; rw [c_has1 hs hw hi, bd1_s, if_neg one_ne, (row_in r hr).1, bd1_s, if_neg one_ne, g4, bd1_s, if_neg n1, (find_n F4 f1 f5).1, bd3_s], by unfold fX5_kinds; rw [m_isPeel1 ha hw hi, bd1_s, if_neg one_ne, (row_in r hr).2, bd1_s, if_neg one_ne, g5, bd1_s, if_neg n2, (find_n F5 f1 f5).2, bd3_s], upd_eq6 hF (by omega)⟩
  obtain ⟨sz, nd, lf, lk, mo, ta, kn, pl, ln, dn, cv, e4⟩ := c_kinds_L (items := items) (sizes := sizes) hs hw hB hi hr (k := k) (by omega) s1 6 0 FU a1 a2 a3 a4 a5 a6' b1 b2 b3 b4 b5 (by omega) (by decide)
  obtain ⟨t, e5⟩ := m_kinds_L (rsz := rsz) (rit := rit) ha hw hB hi hr (k := k) (by omega) s2 6 0 FU tried (by omega) (by decide)
  have ef : fkN v (fun j => items (40 * r + j)) k i = fkN v (fun j => rit (40 * r + j)) k i := by
    funext p
    exact fitN_cong he
  rw [ef] at e4
  have e4 : fX4_fittingKinds_L5 items sizes size need lifted licked morning tally kinds places lengths downs covers (nI i) (nI r) FU a1 a2 a3 a4 a5 a6' b1 b2 b3 b4 b5 0 0 = _ := e4
  have e5 : fX5_kinds_L39 rsz rit now (nI i) (nI r) FU tried 0 0 = _ := e5
  have e4' : fX4_fittingKinds items sizes size need lifted licked morning tally kinds places lengths downs covers a1 a2 a3 a4 a5 a6' b1 b2 b3 b4 b5 (nI i) (nI r) = some (nI (orB (fkN v (fun j => rit (40 * r + j)) k i) 6), sz, nd, lf, lk, mo, ta, kn, pl, ln, dn, cv) := by
    unfold fX4_fittingKinds
    rw [e4, bd12_s]
  exact ⟨_, _, _, _, _, _, _, _, _, _, _, _, _, _, _, _, by unfold fX4_kinds; rw [c_has1 hs hw hi, bd1_s, if_neg one_ne, (row_in r hr).1, bd1_s, if_neg one_ne, g4, bd1_s, if_pos rfl, e4', bd12_s], by unfold fX5_kinds; rw [m_isPeel1 ha hw hi, bd1_s, if_neg one_ne, (row_in r hr).2, bd1_s, if_neg one_ne, g5, bd1_s, if_pos (by decide), e5, bd2_s], hF⟩
end
theorem step_places : Step_places Rel := by
  intro c d h x1 x2
  obtain ⟨⟨a1, a2, a3, a4, a5⟩, hB, hC, n, V, q, k, hD⟩ := h
  obtain ⟨hw, hs, ha, hk, -⟩ := hD.get
  obtain ⟨r, fi, sz, nd, lf, lk, mo, ta, kn, pl, ln, dn, cv, F4, t, F5, e4, e5, hF⟩ := fl_places hs hw hk ha hB (ms_finding d) a5 (cs_as_size c) (cs_as_need c) (cs_as_lifted c) (cs_as_licked c) (cs_as_morning c) (cs_as_tally c) (cs_as_kinds c) (cs_as_places c) (cs_as_lengths c) (cs_as_downs c) (cs_as_covers c) (ms_tried d) x1 x2
  rw [← a1] at e4
  exact go2 (map_some e4) (map_some e5) rfl ⟨⟨rfl, a2, a3, a4, hF⟩, hB, hC, n, V, q, k, hD⟩
theorem step_kinds : Step_kinds Rel := by
  intro c d h x1 x2
  obtain ⟨⟨a1, a2, a3, a4, a5⟩, hB, hC, n, V, q, k, hD⟩ := h
  obtain ⟨hw, hs, ha, hk, -⟩ := hD.get
  obtain ⟨r, fi, sz, nd, lf, lk, mo, ta, kn, pl, ln, dn, cv, F4, t, F5, e4, e5, hF⟩ := fl_kinds hs hw hk ha hB (ms_finding d) a5 (cs_as_size c) (cs_as_need c) (cs_as_lifted c) (cs_as_licked c) (cs_as_morning c) (cs_as_tally c) (cs_as_kinds c) (cs_as_places c) (cs_as_lengths c) (cs_as_downs c) (cs_as_covers c) (ms_tried d) x1 x2
  rw [← a1] at e4
  exact go2 (map_some e4) (map_some e5) rfl ⟨⟨rfl, a2, a3, a4, hF⟩, hB, hC, n, V, q, k, hD⟩
