/-! ===== pure: lots ===== -/
def dbN (w : Nat) : Nat := if w = 4 then 1 else if w = 5 then 2 else if w = 6 then 3 else if w = 7 then 4 else 0
theorem db_all : ∀ w, w < 8 → (if nI w = 4 then some (1 : Int32) else if nI w = 5 then some 2 else if nI w = 6 then some 3 else if nI w = 7 then some 4 else some 0) = some (nI (dbN w)) := by decide
theorem dbN_le (w : Nat) : dbN w ≤ 4 := by unfold dbN; split <;> (try split) <;> (try split) <;> (try split) <;> omega
theorem c_db {Y : Nat} (hY : Y < 2 ^ 31) : fX4_deedByLot (nI Y) = some (nI (dbN (Y / 8 % 8))) := by
  have e8 : nI Y / 8 = nI (Y / 8) := pk_div (d := 8) hY (by decide) (by decide)
  have e9 : nI (Y / 8) - nI (Y / 8) / 8 * 8 = nI (Y / 8 % 8) := pk_rem (d := 8) (by omega) (by decide) (by decide)
  unfold fX4_deedByLot
  rw [e8, e9]
  exact db_all _ (Nat.mod_lt _ (by decide))
theorem l_n0 {n : Nat} (h0 : 0 < n) (h : n < 2 ^ 31) : ¬ lN n = 0 := fun z => by
  have := (lN_eq (b := 0) h (by decide)).mp z
  omega
theorem m_lot {now : Nat → Int32} {v : Nat → Nat} {n B Y : Nat} (ha : AR now v) (hw : WF v n B) (hB : B < 2 ^ 20) (hn : 0 < n) (hY : Y < 2 ^ 31) : ∃ now', fX5_lot now (lN Y) = some now' ∧ AR now' (spV (dbN (Y / 8 % 8)) (Y % n) (Y / 64 % 16) v) := by
  have hn6 := hw.2.1
  have hi : Y % n < n := Nat.mod_lt _ hn
  have hp : Y / 64 % 16 < 16 := Nat.mod_lt _ (by decide)
  have hW8 : Y / 8 % 8 < 8 := Nat.mod_lt _ (by decide)
  have e8 : lN Y / 8 = lN (Y / 8) := pk_lDiv (b := 8) (by omega) (by decide) (by decide)
  have e9 : lN (Y / 8) - lN (Y / 8) / 8 * 8 = lN (Y / 8 % 8) := pk_lRem (b := 8) (by omega) (by decide) (by decide)
  have ei : lN Y - lN Y / lN n * lN n = lN (Y % n) := pk_lRem (by omega) hn (by omega)
  have e6 : lN Y / 64 = lN (Y / 64) := pk_lDiv (b := 64) (by omega) (by decide) (by decide)
  have e7 : lN (Y / 64) - lN (Y / 64) / 16 * 16 = lN (Y / 64 % 16) := pk_lRem (b := 16) (by omega) (by decide) (by decide)
  obtain ⟨b0, b1, b2, b3, b4⟩ := hw.2.2.2.2.2.2.2 (Y % n) hi
  obtain ⟨p0, p1, p2, p3, p4⟩ := p35 ha (i := Y % n) (by omega)
  have h4 := hw.2.2.2.1
  unfold fX5_lot
  rw [r35_1 ha, bd1_s, hw.1, nI_l (by omega), if_neg (l_n0 hn (by omega)), e8, e9, ei, e6, e7, lN_i (Y / 8 % 8), lN_i (Y % n), lN_i (Y / 64 % 16)]
  generalize Y / 8 % 8 = W at hW8
  generalize Y % n = i at hi b0 b1 b2 b3 b4 p0 p1 p2 p3 p4
  generalize Y / 64 % 16 = p at hp
  rcases (show W < 4 ∨ W = 4 ∨ W = 5 ∨ W = 6 ∨ W = 7 by omega) with q | rfl | rfl | rfl | rfl
  · have c4 : ¬ (4 : Int32) ≤ nI W := nI_ge (b := 4) q (by decide)
    obtain ⟨w', hw', e⟩ := m_passes ha hw hB
    refine ⟨w', ?_, ?_⟩
    · rw [if_neg c4, e, bd2_s]
    · have ed : dbN W = 0 := by unfold dbN; rw [if_neg (by omega), if_neg (by omega), if_neg (by omega), if_neg (by omega)]
      unfold spV
      rw [ed, if_pos rfl]
      exact hw'
  · refine ⟨upd now (6 + 5 * i) (nI p), ?_, ?_⟩
    · rw [if_pos (by decide), if_pos (by decide), ix1, s35 (by omega), bd1_s]
    · show AR _ (spV 1 i p v)
      unfold spV
      rw [if_neg (by decide), if_pos rfl]
      exact ha.up _ _
  · have e4 : (1 : Int32) - nI (dnV v i) = nI (1 - dnV v i) := nI_sub (a := 1) (by omega)
    refine ⟨upd now (8 + 5 * i) (nI (1 - dnV v i)), ?_, ?_⟩
    · rw [if_pos (by decide), if_neg (by decide), if_pos (by decide), p3, bd1_s, e4, ix3, s35 (by omega), bd1_s]
    · show AR _ (spV 2 i p v)
      unfold spV
      rw [if_neg (by decide), if_neg (by decide), if_pos rfl]
      exact ha.up _ _
  · have e4 : (1 : Int32) - nI (lfV v i) = nI (1 - lfV v i) := nI_sub (a := 1) (by omega)
    refine ⟨upd now (9 + 5 * i) (nI (1 - lfV v i)), ?_, ?_⟩
    · rw [if_pos (by decide), if_neg (by decide), if_neg (by decide), if_pos (by decide), p4, bd1_s, e4, ix4, s35 (by omega), bd1_s]
    · show AR _ (spV 3 i p v)
      unfold spV
      rw [if_neg (by decide), if_neg (by decide), if_neg (by decide), if_pos rfl]
      exact ha.up _ _
  · have s4 : ∀ x, ast 35 now 4 x = some (upd now 4 x) := fun x => s35 (j := 4) (by decide)
    by_cases cm : v 4 / 2 ^ p % 2 = 1 ∨ pcN (v 4) < 8
    · refine ⟨upd now 4 (nI (v 4 ^^^ 2 ^ p)), ?_, ?_⟩
      · rw [if_pos (by decide), if_neg (by decide), if_neg (by decide), if_neg (by decide), r35_4 ha, bd1_s, m_mayLick ha hw hp, bd1_s, if_pos cm, if_neg one_ne, sh1 hp]
        unfold fX5_lot_j155
        rw [n_xor, s4, bd1_s]
      · show AR _ (spV 4 i p v)
        unfold spV
        rw [if_neg (by decide), if_neg (by decide), if_neg (by decide), if_neg (by decide), if_pos cm]
        exact ha.up _ _
    · refine ⟨upd now 4 (nI (v 4)), ?_, ?_⟩
      · rw [if_pos (by decide), if_neg (by decide), if_neg (by decide), if_neg (by decide), r35_4 ha, bd1_s, m_mayLick ha hw hp, bd1_s, if_neg cm, if_pos rfl]
        unfold fX5_lot_j155
        rw [Int32.xor_zero, s4, bd1_s]
      · show AR _ (spV 4 i p v)
        unfold spV
        rw [if_neg (by decide), if_neg (by decide), if_neg (by decide), if_neg (by decide), if_neg cm]
        intro x hx
        by_cases e : x = 4
        · subst e; rw [upd_s]
        · rw [upd_n _ _ e]; exact ha x hx
section
variable {size need lifted licked morning tally : Int32} {kinds places lengths downs covers : Nat → Int32} {n : Nat} {V q : Nat → Nat} {k : Nat} {Sst : Prop} {dsz dit : Nat → Int32} {deeds : Int32} {now past kd ke kp : Nat → Int32}
theorem lots_L {N : Nat} (hN : N ≤ 20) (hn : 0 < n) : ∀ (m j fuel k X : Nat) (lf lk mo ta : Int32) (pl dn cv dit dsz now past : Nat → Int32) (q : Nat → Nat), RD Sst (fun u => SL size need lf lk mo ta kinds pl lengths dn cv u n) dsz dit (nI k) now past kd ke kp n V q k → X < 2147483647 → j + m = N → k + m ≤ 40 → m < fuel →
    ∃ dit' dsz' lf' lk' mo' ta' pl' dn' cv' now' past' q' k', fX4_lots_L55 size need kinds lengths (nI N) fuel dit dsz lf lk mo ta pl dn cv (lN X) (nI j) = some (dit', dsz', lf', lk', mo', ta', pl', dn', cv') ∧ fX5_lots_L52 (nI N) fuel (nI k) now past (lN X) (nI j) = some (nI k', now', past') ∧ RD Sst (fun u => SL size need lf' lk' mo' ta' kinds pl' lengths dn' cv' u n) dsz' dit' (nI k') now' past' kd ke kp n V q' k' := by
  intro m
  induction m with
  | zero =>
    intro j fuel k X lf lk mo ta pl dn cv dit dsz now past q h hX h1 hk2 h2
    obtain ⟨f, rfl⟩ : ∃ f, fuel = f + 1 := ⟨fuel - 1, by omega⟩
    have hj : j = N := by omega
    subst hj
    refine ⟨dit, dsz, lf, lk, mo, ta, pl, dn, cv, now, past, q, k, ?_, ?_, h⟩
    · show fX4_lots_B55 _ _ _ _ _ _ _ _ _ _ _ _ _ _ _ _ _ = _
      unfold fX4_lots_B55
      rw [if_pos (nI_le (Nat.le_refl j) (by omega))]
    · show fX5_lots_B52 _ _ _ _ _ _ _ = _
      unfold fX5_lots_B52
      rw [if_pos (nI_le (Nat.le_refl j) (by omega))]
  | succ m ih =>
    intro j fuel k X lf lk mo ta pl dn cv dit dsz now past q h hX h1 hk2 h2
    obtain ⟨f, rfl⟩ : ∃ f, fuel = f + 1 := ⟨fuel - 1, by omega⟩
    obtain ⟨hw, hs, ha, hk, hd, -, hn6⟩ := h.get
    have e1 : lN X * 48271 = lN (X * 48271) := lN_mul X 48271
    have e2 : lN (X * 48271) - lN (X * 48271) / 2147483647 * 2147483647 = lN (X * 48271 % 2147483647) := pk_lRem (b := 2147483647) (by omega) (by decide) (by decide)
    have hY : X * 48271 % 2147483647 < 2147483647 := Nat.mod_lt _ (by decide)
    generalize X * 48271 % 2147483647 = Y at e2 hY
    have hp : Y / 64 % 16 < 16 := Nat.mod_lt _ (by decide)
    have hi : Y % n < n := Nat.mod_lt _ hn
    have ei : lN Y - lN Y / lN n * lN n = lN (Y % n) := pk_lRem (by omega) hn (by omega)
    have e6 : lN Y / 64 = lN (Y / 64) := pk_lDiv (b := 64) (by omega) (by decide) (by decide)
    have e7 : lN (Y / 64) - lN (Y / 64) / 16 * 16 = lN (Y / 64 % 16) := pk_lRem (b := 16) (by omega) (by decide) (by decide)
    obtain ⟨lf1, lk1, mo1, ta1, pl1, dn1, cv1, ea, hS⟩ := c_act hs hw (k20 hk) (what := dbN (Y / 8 % 8)) (i := Y % n) (place := Y / 64 % 16) (dbN_le _) hi hp (dit := dit) (by omega) hd
    obtain ⟨past1, ep, hpp⟩ := m_notes (now := now) (past := past) (k := k) (by omega)
    obtain ⟨now1, el, ha1⟩ := m_lot ha hw (k20 hk) hn (Y := Y) (by omega)
    have hR := RD.act h (Ssl' := fun u => SL size need lf1 lk1 mo1 ta1 kinds pl1 lengths dn1 cv1 u n) (by omega) (dbN_le _) hi hp hS ha1 hpp
    obtain ⟨dit', dsz', lf', lk', mo', ta', pl', dn', cv', now', past', q', k', i4, i5, hR'⟩ := ih (j + 1) f (k + 1) Y lf1 lk1 mo1 ta1 pl1 dn1 cv1 _ _ now1 past1 _ hR hY (by omega) (by omega) (by omega)
    refine ⟨dit', dsz', lf', lk', mo', ta', pl', dn', cv', now', past', q', k', ?_, ?_, hR'⟩
    · have c20 : ¬ (20 : Int32) ≤ nI j := nI_ge (b := 20) (by omega) (by decide)
      have u4 : fX4_lots_L55 size need kinds lengths (nI N) (f + 1) dit dsz lf lk mo ta pl dn cv (lN X) (nI j) = fX4_lots_B55 size need kinds lengths (nI N) (fX4_lots_L55 size need kinds lengths (nI N) f) dit dsz lf lk mo ta pl dn cv (lN X) (nI j) := rfl
      have es : Int32.toInt64 size = lN n := by rw [hs.1, nI_l (by omega)]
      rw [u4]
      unfold fX4_lots_B55
      rw [if_neg (nI_ge (by omega) (by omega)), if_neg c20, e1, e2, lN_i Y, c_db (by omega), bd1_s, es, if_neg (l_n0 hn (by omega)), ei, e6, e7, lN_i (Y % n), lN_i (Y / 64 % 16), ea, bd9_s, nI_1]
      exact i4
    · have u5 : fX5_lots_L52 (nI N) (f + 1) (nI k) now past (lN X) (nI j) = fX5_lots_B52 (nI N) (fX5_lots_L52 (nI N) f) (nI k) now past (lN X) (nI j) := rfl
      rw [u5]
      unfold fX5_lots_B52
      rw [if_neg (nI_ge (by omega) (by omega)), ep, bd2_s, e1, e2, el, bd1_s, nI_1]
      exact i5
theorem c_hasRoomN {dsz : Nat → Int32} {k N : Nat} (hk : k ≤ 40) (hN : N ≤ 20) (h : dsz 3 = nI k) : fX4_hasRoom dsz (nI N) = some (if k + N ≤ 40 then 1 else 0) := by
  unfold fX4_hasRoom
  have e : fX2_sizeOf 4 dsz 3 = some (dsz 3) := s_sizeOf (m := 4) (r := 3) (by decide) (by decide)
  rw [e, bd1_s, h, nI_add]
  by_cases c : k + N ≤ 40
  · have c1 : ¬ (40 : Int32) < nI (k + N) := nI_nlt (a := 40) (b := k + N) (by omega) (by decide)
    rw [if_neg c1, if_pos c]
  · have c1 : (40 : Int32) < nI (k + N) := nI_lt (a := 40) (b := k + N) (by omega) (by omega)
    rw [if_pos c1, if_neg c]
theorem fl_lots (h : RD Sst (fun u => SL size need lifted licked morning tally kinds places lengths downs covers u n) dsz dit deeds now past kd ke kp n V q k) (x1 x2 : Int32) : DD Sst size need kinds lengths kd ke kp n V (fX4_lots dit dsz size need lifted licked morning tally kinds places lengths downs covers x1 x2) (fX5_lots deeds now past x1 x2) := by
  obtain ⟨hw, hs, ha, hk, hd, rfl, hn6⟩ := h.get
  by_cases p1 : x1 < 1
  · exact DD.same h (by unfold fX4_lots; rw [if_pos p1]) (by unfold fX5_lots; rw [in0_eq, if_pos p1, bd1_s, if_pos rfl])
  by_cases p2 : 20 < x1
  · exact DD.same h (by unfold fX4_lots; rw [if_neg p1, if_pos p2]) (by unfold fX5_lots; rw [in0_eq, if_neg p1, if_pos p2, bd1_s, if_pos rfl])
  have z1 : fX5_in0 x1 1 20 = some 1 := by rw [in0_eq, if_neg p1, if_neg p2]
  by_cases p3 : x2 < 1
  · exact DD.same h (by unfold fX4_lots; rw [if_neg p1, if_neg p2, if_pos p3]) (by unfold fX5_lots; rw [z1, bd1_s, if_neg one_ne, in0_eq, if_pos p3, bd1_s, if_pos rfl])
  have t1 : (1 : Int32).toInt = 1 := by decide
  have t0 : (0 : Int32).toInt = 0 := by decide
  have ta : (2147483647 : Int32).toInt = 2147483647 := by decide
  have tb : (2147483646 : Int32).toInt = 2147483646 := by decide
  by_cases p4 : x2 < 2147483647
  rotate_left
  · have p5 : 2147483646 < x2 := by
      rw [Int32.lt_iff_toInt_lt] at p4 ⊢
      omega
    exact DD.same h (by unfold fX4_lots; rw [if_neg p1, if_neg p2, if_neg p3, if_neg p4]) (by unfold fX5_lots; rw [z1, bd1_s, if_neg one_ne, in0_eq, if_neg p3, if_pos p5, bd1_s, if_pos rfl])
  have p5 : ¬ 2147483646 < x2 := by
    rw [Int32.lt_iff_toInt_lt] at p4 ⊢
    omega
  have z2 : fX5_in0 x2 1 2147483646 = some 1 := by rw [in0_eq, if_neg p3, if_neg p5]
  by_cases n0 : n = 0
  · exact DD.same h (by unfold fX4_lots; rw [if_neg p1, if_neg p2, if_neg p3, if_pos p4, if_pos (c_any0 hs n0)]) (by unfold fX5_lots; rw [z1, bd1_s, if_neg one_ne, z2, bd1_s, if_neg one_ne, m_any0 ha hw n0, bd1_s, if_pos rfl])
  obtain ⟨N, hN, rfl⟩ : ∃ N, N ≤ 20 ∧ x1 = nI N := by
    rcases spl x1 (k := 21) (by decide) with ⟨N, hN, e⟩ | hx | hx
    · exact ⟨N, by omega, e⟩
    · exact absurd (lt1 hx) p1
    · exact absurd (i5_lt (k := 20) (by decide) hx) p2
  obtain ⟨X, hX, rfl⟩ : ∃ X, X < 2147483647 ∧ x2 = nI X := by
    obtain ⟨X, hX, e⟩ := nI_of (x := x2) (fun z => p3 (lt1 z))
    subst e
    rw [Int32.lt_iff_toInt_lt, nI_toInt hX, ta] at p4
    exact ⟨X, by omega, rfl⟩
  by_cases ck : k + N ≤ 40
  rotate_left
  · have c1 : ¬ nI k + nI N ≤ 40 := by rw [nI_add]; exact nI_ge (a := 40) (b := k + N) (by omega) (by omega)
    exact DD.same h (by unfold fX4_lots; rw [if_neg p1, if_neg p2, if_neg p3, if_pos p4, if_neg (c_any1 hs hw n0), c_hasRoomN hk hN hd, if_neg ck, bd1_s, if_pos rfl]) (by unfold fX5_lots; rw [z1, bd1_s, if_neg one_ne, z2, bd1_s, if_neg one_ne, m_any1 ha hw n0, bd1_s, if_neg one_ne, if_neg c1])
  have c1 : nI k + nI N ≤ 40 := by rw [nI_add]; exact nI_le (a := k + N) (b := 40) ck (by decide)
  obtain ⟨dit', dsz', lf', lk', mo', ta', pl', dn', cv', now', past', q', k', i4, i5, hR⟩ := lots_L hN (by omega) N 0 FU k X lifted licked morning tally places downs covers dit dsz now past q h hX (by omega) ck (Nat.lt_of_le_of_lt hN (by decide))
  have i4 : fX4_lots_L55 size need kinds lengths (nI N) FU dit dsz lifted licked morning tally places downs covers (lN X) 0 = _ := i4
  have i5 : fX5_lots_L52 (nI N) FU (nI k) now past (lN X) 0 = _ := i5
  obtain ⟨-, hs', ha', -⟩ := hR.get
  have et : ta' = nI (rpV q' V k' 3) := hs'.2.2.2.2.2.1
  refine ⟨ta', dit', dsz', lf', lk', mo', ta', pl', dn', cv', nI k', now', past', q', k', ?_, ?_, hR⟩
  · unfold fX4_lots
    rw [if_neg p1, if_neg p2, if_neg p3, if_pos p4, if_neg (c_any1 hs hw n0), c_hasRoomN hk hN hd, if_pos ck, bd1_s, if_neg one_ne, nI_l (by omega), i4, bd9_s]
  · unfold fX5_lots
    rw [z1, bd1_s, if_neg one_ne, z2, bd1_s, if_neg one_ne, m_any1 ha hw n0, bd1_s, if_neg one_ne, if_pos c1, nI_l (by omega), i5, bd3_s, r35_3 ha', bd1_s, et]
end
theorem step_lots : Step_lots Rel := by
  intro c d h x1 x2
  obtain ⟨hA, hB, hC, n, V, q, k, hD⟩ := h
  obtain ⟨r, dit, dsz, lf, lk, mo, ta, pl, dn, cv, deeds, now, past, q', k', e4, e5, hD'⟩ := fl_lots hD.rd x1 x2
  exact go2 (map_some e4) (map_some e5) rfl ⟨hA, hB, hC, n, V, q', k', hD'⟩
