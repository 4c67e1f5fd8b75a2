/-! ===== pure: peel, mark, covers, covered, weighs ===== -/
def wgN (k : Nat) : Nat := if k = 2 ∨ k = 5 then 3 else if k = 3 then 2 else 1
theorem wg_all : ∀ k, k < 6 → fX3_weightBy (nI k) = some (nI (wgN k)) ∧ fX5_weightOf (nI k) = some (nI (wgN k)) ∧ wgN k ≤ 3 := by decide
def ofN (k w : Nat) : Nat := if k = w ∨ (k = 4 ∧ w = 1) ∨ (k = 5 ∧ w = 2) then 1 else 0
theorem of_all : ∀ k, k < 6 → ∀ w, w < 6 → fX3_isOf_j19 (nI w) (nI k) = some (nI (ofN k w)) ∧ fX5_isOf (nI k) (nI w) = some (nI (ofN k w)) := by decide
theorem in6_all : ∀ w, w < 6 → ¬ w = 0 → ¬ nI w = 0 ∧ fX4_isIn (nI w) 6 = some 1 ∧ fX5_in0 (nI w) 1 5 = some 1 := by decide
theorem cov5 : ((List.range 16).all fun p => (List.range 4).all fun l => (List.range 2).all fun d => Nat.beq (pcN (covN 5 p (l + 1) d)) 1) = true := by decide +kernel
theorem cov5_ok {p l d : Nat} (hp : p < 16) (hl : 1 ≤ l ∧ l ≤ 4) (hd : d < 2) : pcN (covN 5 p l d) = 1 := by
  obtain ⟨q, rfl⟩ : ∃ q, l = q + 1 := ⟨l - 1, by omega⟩
  have h1 := List.all_eq_true.mp cov5 p (List.mem_range.mpr hp)
  have h2 := List.all_eq_true.mp h1 q (List.mem_range.mpr (by omega))
  have h3 := List.all_eq_true.mp h2 d (List.mem_range.mpr hd)
  exact Nat.eq_of_beq_eq_true h3
section
variable {size need lifted licked morning tally : Int32} {kinds places lengths downs covers : Nat → Int32} {v : Nat → Nat} {n B : Nat} {now : Nat → Int32}
theorem c_has1 (hs : SL size need lifted licked morning tally kinds places lengths downs covers v n) (hw : WF v n B) {i : Nat} (hi : i < n) : fX3_has size (nI i) = some 1 := by rw [hs.1]; exact c_has hw.2.1 hi
theorem c_has0 (hs : SL size need lifted licked morning tally kinds places lengths downs covers v n) {x : Int32} (hx : x < 0 ∨ nI n ≤ x) : fX3_has size x = some 0 := by rw [hs.1]; exact c_hasN hx
theorem c_any0 (hs : SL size need lifted licked morning tally kinds places lengths downs covers v n) (h : n = 0) : size = 0 := by rw [hs.1, h]; rfl
theorem c_any1 (hs : SL size need lifted licked morning tally kinds places lengths downs covers v n) (hw : WF v n B) (h : ¬ n = 0) : ¬ size = 0 := by have := hw.2.1; rw [hs.1]; exact nI_ne0 (by omega) (by omega)
theorem m_any0 (ha : AR now v) (hw : WF v n B) (h : n = 0) : fX5_isAny now = some 0 := by rw [m_isAny ha hw, if_pos h]
theorem m_any1 (ha : AR now v) (hw : WF v n B) (h : ¬ n = 0) : fX5_isAny now = some 1 := by rw [m_isAny ha hw, if_neg h]
theorem c_coverAs (hs : SL size need lifted licked morning tally kinds places lengths downs covers v n) (hw : WF v n B) {i k : Nat} (hi : i < n) (hk : k < 6) : fX3_coverAs size places lengths downs (nI k) (nI i) = some (nI (covN k (isV v i) (lnV v i) (dnV v i))) := by
  obtain ⟨-, b1, b2, b3, -⟩ := hw.2.2.2.2.2.2.2 i hi
  obtain ⟨-, s1, s2, s3, -⟩ := hs.2.2.2.2.2.2 i hi
  have hn6 := hw.2.1
  unfold fX3_coverAs
  rw [c_has1 hs hw hi, bd1_s, if_neg one_ne, a6 (by omega), s1, bd1_s, a6 (by omega), s2, bd1_s, a6 (by omega), s3, bd1_s, (cov_ok hk b1 b2 b3).1, bd1_s]
theorem m_inStead (ha : AR now v) (hw : WF v n B) {i k : Nat} (hi : i < n) (hk : k < 6) : fX5_inStead now (nI i) (nI k) = some (nI (covN k (isV v i) (lnV v i) (dnV v i))) := by
  obtain ⟨-, b1, b2, b3, -⟩ := hw.2.2.2.2.2.2.2 i hi
  have hn6 := hw.2.1
  obtain ⟨-, p1, p2, p3, -⟩ := p35 ha (i := i) (by omega)
  unfold fX5_inStead
  rw [p1, bd1_s, p2, bd1_s, p3, bd1_s, (cov_ok hk b1 b2 b3).2.1, bd1_s]
theorem c_coverAt (hs : SL size need lifted licked morning tally kinds places lengths downs covers v n) (hw : WF v n B) {i p d : Nat} (hi : i < n) (hp : p < 16) (hd : d < 2) : fX3_coverAt size kinds lengths (nI i) (nI p) (nI d) = some (nI (covN (kdV v i) p (lnV v i) d)) := by
  obtain ⟨b0, -, b2, -, -⟩ := hw.2.2.2.2.2.2.2 i hi
  obtain ⟨s0, -, s2, -, -⟩ := hs.2.2.2.2.2.2 i hi
  have hn6 := hw.2.1
  unfold fX3_coverAt
  rw [c_has1 hs hw hi, bd1_s, if_neg one_ne, a6 (by omega), s0, bd1_s, a6 (by omega), s2, bd1_s, (cov_ok b0 hp b2 hd).1, bd1_s]
theorem tr_eq (hs : SL size need lifted licked morning tally kinds places lengths downs covers v n) (hw : WF v n B) (ha : AR now v) {i w : Nat} (hi : i < n) (hwi : w < 7) : ∃ x, fX3_trait size lifted kinds places lengths downs covers (nI i) (nI w) = some x ∧ fX5_tellsOf now (nI i) (nI w) = some x := by
  obtain ⟨b0, b1, b2, b3, b4⟩ := hw.2.2.2.2.2.2.2 i hi
  obtain ⟨s0, s1, s2, s3, s4⟩ := hs.2.2.2.2.2.2 i hi
  have hn6 := hw.2.1
  have h8 : ∀ j, j < n → lfV v j < 2 := fun j hj => (hw.2.2.2.2.2.2.2 j hj).2.2.2.2
  have hl64 : lfN v n < 2 ^ 6 := Nat.lt_of_lt_of_le (lfN_lt h8) (Nat.pow_le_pow_right (by decide) hn6)
  have tl : ∀ w, ¬ nI w = 5 → ¬ nI w = 6 → w < 5 → fX5_tellsOf now (nI i) (nI w) = some (nI (v (5 + 5 * i + w))) := by
    intro w h5 h6 h
    unfold fX5_tellsOf
    rw [if_neg h5, if_neg h6, ix0, nI_add, r35 ha (by omega), bd1_s]
  unfold fX3_trait
  rw [c_has1 hs hw hi, bd1_s, if_neg one_ne]
  rcases (show w = 0 ∨ w = 1 ∨ w = 2 ∨ w = 3 ∨ w = 4 ∨ w = 5 ∨ w = 6 by omega) with rfl | rfl | rfl | rfl | rfl | rfl | rfl
  · refine ⟨_, by rw [if_pos (by decide), a6 (by omega), bd1_s, s0], ?_⟩
    rw [tl 0 (by decide) (by decide) (by decide)]
    unfold kdV
    congr 3
  · refine ⟨_, by rw [if_neg (by decide), if_pos (by decide), a6 (by omega), bd1_s, s1], ?_⟩
    rw [tl 1 (by decide) (by decide) (by decide)]
    unfold isV
    congr 3; omega
  · refine ⟨_, by rw [if_neg (by decide), if_neg (by decide), if_pos (by decide), a6 (by omega), bd1_s, s2], ?_⟩
    rw [tl 2 (by decide) (by decide) (by decide)]
    unfold lnV
    congr 3; omega
  · refine ⟨_, by rw [if_neg (by decide), if_neg (by decide), if_neg (by decide), if_pos (by decide), a6 (by omega), bd1_s, s3], ?_⟩
    rw [tl 3 (by decide) (by decide) (by decide)]
    unfold dnV
    congr 3; omega
  · have eb : fX4_bit lifted (nI i) = some (nI (lfV v i)) := by
      unfold fX4_bit
      rw [hs.2.2.1, n_bit (by omega) (by omega), lfN_bit h8 i hi]
    refine ⟨_, by rw [if_neg (by decide), if_neg (by decide), if_neg (by decide), if_neg (by decide), if_pos (by decide), eb, bd1_s], ?_⟩
    rw [tl 4 (by decide) (by decide) (by decide)]
    unfold lfV
    congr 3; omega
  · refine ⟨_, by rw [if_neg (by decide), if_neg (by decide), if_neg (by decide), if_neg (by decide), if_neg (by decide), if_pos (by decide), a6 (by omega), bd1_s, s4], ?_⟩
    unfold fX5_tellsOf
    rw [if_pos (by decide), m_coverOf ha hw hi, bd1_s]
  · refine ⟨_, by rw [if_neg (by decide), if_neg (by decide), if_neg (by decide), if_neg (by decide), if_neg (by decide), if_neg (by decide), if_pos (by decide), a6 (by omega), bd1_s, s0, (wg_all _ b0).1, bd1_s], ?_⟩
    unfold fX5_tellsOf
    rw [if_neg (by decide), if_pos (by decide), (p35 ha (i := i) (by omega)).1, bd1_s, (wg_all _ b0).2.1, bd1_s]
theorem fl_peel (hs : SL size need lifted licked morning tally kinds places lengths downs covers v n) (hw : WF v n B) (ha : AR now v) (asked x1 x2 : Int32) : ∃ r a, fX4_peel asked size lifted kinds places lengths downs covers x1 x2 = some (r, a) ∧ fX5_peel asked now x1 x2 = some (r, a) := by
  have hn6 := hw.2.1
  rcases spl x1 (k := n) (by omega) with ⟨i, hi, rfl⟩ | hx
  rotate_left
  · exact ⟨_, _, by unfold fX4_peel; rw [c_has0 hs hx, bd1_s, if_pos rfl], by unfold fX5_peel; rw [m_isPeel0 ha hw hx, bd1_s, if_pos rfl]⟩
  rcases spl x2 (k := 7) (by decide) with ⟨w, hwi, rfl⟩ | hx
  rotate_left
  · have z4 : fX4_isIn x2 7 = some 0 := (inK0 (k := 6) (by decide) hx).1
    have z5 : fX5_in0 x2 0 6 = some 0 := (inK0 (k := 6) (by decide) hx).2
    exact ⟨_, _, by unfold fX4_peel; rw [c_has1 hs hw hi, bd1_s, if_neg one_ne, z4, bd1_s, if_pos rfl], by unfold fX5_peel; rw [m_isPeel1 ha hw hi, bd1_s, if_neg one_ne, z5, bd1_s, if_pos rfl]⟩
  have z4 : fX4_isIn (nI w) 7 = some 1 := (inK1 (k := 6) (by decide) (by omega)).1
  have z5 : fX5_in0 (nI w) 0 6 = some 1 := (inK1 (k := 6) (by decide) (by omega)).2
  obtain ⟨x, e4, e5⟩ := tr_eq hs hw ha hi hwi
  exact ⟨1, x, by unfold fX4_peel; rw [c_has1 hs hw hi, bd1_s, if_neg one_ne, z4, bd1_s, if_neg one_ne, e4, bd1_s]; rfl, by unfold fX5_peel; rw [m_isPeel1 ha hw hi, bd1_s, if_neg one_ne, z5, bd1_s, if_neg one_ne, e5, bd1_s]; rfl⟩
def hvN (v : Nat → Nat) (W n : Nat) : Nat := sumN (fun i => if wgN (kdV v i) = W then 1 else 0) n
theorem c_hv_L (hs : SL size need lifted licked morning tally kinds places lengths downs covers v n) (hw : WF v n B) {W : Nat} (hW : W ≤ 3) : ∀ (m k fuel : Nat), k + m = n → m < fuel → fX3_amountOfWeight_L4 size kinds (nI W) fuel (nI (hvN v W k)) (nI k) = some (nI (hvN v W n)) := by
  have hn6 := hw.2.1
  intro m
  induction m with
  | zero =>
    intro k fuel h1 h2
    obtain ⟨f, rfl⟩ : ∃ f, fuel = f + 1 := ⟨fuel - 1, by omega⟩
    have hk : k = n := by omega
    subst hk
    show fX3_amountOfWeight_B4 _ _ _ _ _ _ = _
    unfold fX3_amountOfWeight_B4
    rw [hs.1, if_pos (nI_le (Nat.le_refl k) (by omega))]
  | succ m ih =>
    intro k fuel h1 h2
    obtain ⟨f, rfl⟩ : ∃ f, fuel = f + 1 := ⟨fuel - 1, by omega⟩
    obtain ⟨b0, -⟩ := hw.2.2.2.2.2.2.2 k (by omega)
    obtain ⟨s0, -⟩ := hs.2.2.2.2.2.2 k (by omega)
    have c6 : ¬ (6 : Int32) ≤ nI k := nI_ge (a := k) (b := 6) (by omega) (by decide)
    obtain ⟨w1, -, w3⟩ := wg_all _ b0
    have := ih (k + 1) f (by omega) (by omega)
    show fX3_amountOfWeight_B4 _ _ _ _ _ _ = _
    unfold fX3_amountOfWeight_B4
    rw [hs.1, if_neg (nI_ge (by omega) (by omega)), if_neg c6, a6 (by omega), s0, bd1_s, w1, bd1_s]
    by_cases c : wgN (kdV v k) = W
    · rw [if_pos (by rw [c])]
      unfold fX3_amountOfWeight_j34
      rw [nI_1, nI_1, ← hs.1]
      rw [show hvN v W (k + 1) = hvN v W k + 1 by unfold hvN; rw [sumN, if_pos c]] at this
      exact this
    · rw [if_neg (nI_le4 (by omega) (by omega) c)]
      unfold fX3_amountOfWeight_j34
      rw [nI_1, ← hs.1]
      rw [show hvN v W (k + 1) = hvN v W k by unfold hvN; rw [sumN, if_neg c]; omega] at this
      exact this
theorem m_hv_L (ha : AR now v) (hw : WF v n B) {i : Nat} (hi : i < n) : ∀ (m k fuel : Nat), k + m = n → m < fuel → fX5_asHeavy_L4 now (nI i) fuel (nI (hvN v (wgN (kdV v i)) k)) (nI k) = some (nI (hvN v (wgN (kdV v i)) n)) := by
  have hn6 := hw.2.1
  obtain ⟨bi, -⟩ := hw.2.2.2.2.2.2.2 i hi
  obtain ⟨-, wi, wi3⟩ := wg_all _ bi
  intro m
  induction m with
  | zero =>
    intro k fuel h1 h2
    obtain ⟨f, rfl⟩ : ∃ f, fuel = f + 1 := ⟨fuel - 1, by omega⟩
    have hk : k = n := by omega
    subst hk
    show fX5_asHeavy_B4 _ _ _ _ _ = _
    unfold fX5_asHeavy_B4
    rw [r35_1 ha, bd1_s, hw.1, if_pos (nI_le (Nat.le_refl k) (by omega))]
  | succ m ih =>
    intro k fuel h1 h2
    obtain ⟨f, rfl⟩ : ∃ f, fuel = f + 1 := ⟨fuel - 1, by omega⟩
    obtain ⟨b0, -⟩ := hw.2.2.2.2.2.2.2 k (by omega)
    obtain ⟨-, w1, w3⟩ := wg_all _ b0
    have := ih (k + 1) f (by omega) (by omega)
    show fX5_asHeavy_B4 _ _ _ _ _ = _
    unfold fX5_asHeavy_B4
    rw [r35_1 ha, bd1_s, hw.1, if_neg (nI_ge (by omega) (by omega)), (p35 ha (i := k) (by omega)).1, bd1_s, w1, bd1_s, (p35 ha (i := i) (by omega)).1, bd1_s, wi, bd1_s]
    by_cases c : wgN (kdV v k) = wgN (kdV v i)
    · rw [if_pos (by rw [c])]
      unfold fX5_asHeavy_j49
      rw [nI_1, nI_1]
      rw [show hvN v (wgN (kdV v i)) (k + 1) = hvN v (wgN (kdV v i)) k + 1 by unfold hvN; rw [sumN, if_pos c]] at this
      exact this
    · rw [if_neg (nI_le4 (by omega) (by omega) c)]
      unfold fX5_asHeavy_j49
      have e0 : nI (hvN v (wgN (kdV v i)) k) + 0 = nI (hvN v (wgN (kdV v i)) k) := nI_add _ 0
      rw [nI_1, e0]
      rw [show hvN v (wgN (kdV v i)) (k + 1) = hvN v (wgN (kdV v i)) k by unfold hvN; rw [sumN, if_neg c]; omega] at this
      exact this
theorem mk_eq (hs : SL size need lifted licked morning tally kinds places lengths downs covers v n) (hw : WF v n B) (ha : AR now v) {i w : Nat} (hi : i < n) (hwi : w < 6) (hw0 : ¬ w = 0) (fi : Int32) (F : Nat → Int32) (hof : ofN (kdV v i) w = 1) : ∃ x, fX3_tells size kinds places lengths downs covers (nI i) (nI w) = some x ∧ (bd1 (fX5_coverOf 35 now (nI i)) fun v47 =>
        if nI w = 1 then
          bd1 (fX5_inStead now (nI i) 0) fun v87 =>
          bd1 (fX5_ones (v87 &&& (v47 ^^^ (-1)))) fun v94 =>
          some (v94, fi, F)
        else
        if nI w = 2 then
          bd1 (fX5_asHeavy now (nI i)) fun v100 =>
          some (v100, fi, F)
        else
        if nI w = 3 then
          bd1 (fX5_inStead now (nI i) 0) fun v108 =>
          bd1 (fX5_ones (v47 &&& (v108 ^^^ (-1)))) fun v114 =>
          some (v114, fi, F)
        else
        if nI w = 4 then
          bd1 (fX5_inStead now (nI i) 1) fun v122 =>
          bd1 (fX5_ones (v47 &&& (v122 ^^^ (-1)))) fun v128 =>
          some (v128, fi, F)
        else
        bd1 (fX5_inStead now (nI i) 2) fun v135 =>
        bd1 (fX5_ones v135) fun v138 =>
        some ((v138 - 1), fi, F)) = some (x, fi, F) := by
  obtain ⟨b0, b1, b2, b3, b4⟩ := hw.2.2.2.2.2.2.2 i hi
  obtain ⟨s0, s1, s2, s3, s4⟩ := hs.2.2.2.2.2.2 i hi
  have hn6 := hw.2.1
  have hcv := cvV_lt hw hi
  have an : ∀ a b, a < 65536 → bitc (nI a &&& (nI b ^^^ (-1))) = nI (pcN (a &&& (b ^^^ 4294967295))) ∧ fX5_ones (nI a &&& (nI b ^^^ (-1))) = some (nI (pcN (a &&& (b ^^^ 4294967295)))) := by
    intro a b h
    have hl : a &&& (b ^^^ 4294967295) < 65536 := and_lt h
    rw [n_m1, n_xor, n_and]
    exact ⟨bitc_n hl, ones_n (by omega)⟩
  have as : ∀ k, k < 6 → fX3_coverAs size places lengths downs (nI k) (nI i) = some (nI (covN k (isV v i) (lnV v i) (dnV v i))) ∧ fX5_inStead now (nI i) (nI k) = some (nI (covN k (isV v i) (lnV v i) (dnV v i))) ∧ covN k (isV v i) (lnV v i) (dnV v i) < 65536 := fun k hk => ⟨c_coverAs hs hw hi hk, m_inStead ha hw hi hk, (cov_ok hk b1 b2 b3).2.2⟩
  obtain ⟨a0, i0, l0⟩ := as 0 (by decide)
  obtain ⟨a1, i1, l1⟩ := as 1 (by decide)
  obtain ⟨a2, i2, l2⟩ := as 2 (by decide)
  have a0 : fX3_coverAs size places lengths downs 0 (nI i) = _ := a0
  have a1 : fX3_coverAs size places lengths downs 1 (nI i) = _ := a1
  have a2 : fX3_coverAs size places lengths downs 2 (nI i) = _ := a2
  have i0 : fX5_inStead now (nI i) 0 = _ := i0
  have i1 : fX5_inStead now (nI i) 1 = _ := i1
  have i2 : fX5_inStead now (nI i) 2 = _ := i2
  unfold fX3_tells
  rw [c_has1 hs hw hi, bd1_s, if_neg one_ne, a6 (by omega), s4, bd1_s, m_coverOf ha hw hi, bd1_s]
  rcases (show w = 1 ∨ w = 2 ∨ w = 3 ∨ w = 4 ∨ w = 5 by omega) with rfl | rfl | rfl | rfl | rfl
  · exact ⟨_, by rw [if_pos (by decide), a0, bd1_s, (an _ _ l0).1], by rw [if_pos (by decide), i0, bd1_s, (an _ _ l0).2, bd1_s]⟩
  · obtain ⟨w1, -, w3⟩ := wg_all _ b0
    refine ⟨nI (hvN v (wgN (kdV v i)) n), ?_, ?_⟩
    · have e : fX3_amountOfWeight_L4 size kinds (nI (wgN (kdV v i))) FU 0 0 = _ := c_hv_L hs hw w3 n 0 FU (by omega) (Nat.lt_of_le_of_lt hn6 (by decide))
      rw [if_neg (by decide), if_pos (by decide), a6 (by omega), s0, bd1_s, w1, bd1_s]
      unfold fX3_amountOfWeight
      rw [e, bd1_s, bd1_s]
    · have e : fX5_asHeavy_L4 now (nI i) FU 0 0 = _ := m_hv_L ha hw hi n 0 FU (by omega) (Nat.lt_of_le_of_lt hn6 (by decide))
      rw [if_neg (by decide), if_pos (by decide)]
      unfold fX5_asHeavy
      rw [e, bd1_s, bd1_s]
  · exact ⟨_, by rw [if_neg (by decide), if_neg (by decide), if_pos (by decide), a0, bd1_s, (an _ _ hcv).1], by rw [if_neg (by decide), if_neg (by decide), if_pos (by decide), i0, bd1_s, (an _ _ hcv).2, bd1_s]⟩
  · exact ⟨_, by rw [if_neg (by decide), if_neg (by decide), if_neg (by decide), if_pos (by decide), a1, bd1_s, (an _ _ hcv).1], by rw [if_neg (by decide), if_neg (by decide), if_neg (by decide), if_pos (by decide), i1, bd1_s, (an _ _ hcv).2, bd1_s]⟩
  · have hk5 : kdV v i = 5 := by
      unfold ofN at hof
      by_cases c : kdV v i = 5
      · exact c
      · rw [if_neg (by omega)] at hof; omega
    have hpc : pcN (cvV v i) = 1 := by
      unfold cvV
      rw [hk5]
      exact cov5_ok b1 b2 b3
    refine ⟨_, by rw [if_neg (by decide), if_neg (by decide), if_neg (by decide), if_neg (by decide), if_pos (by decide), a2, bd1_s, bitc_n l2, bitc_n hcv, hpc], ?_⟩
    rw [if_neg (by decide), if_neg (by decide), if_neg (by decide), if_neg (by decide), i2, bd1_s, ones_n (by omega), bd1_s]
    rfl
theorem lt1 {x : Int32} (h : x < 0) : x < 1 := by
  rw [Int32.lt_iff_toInt_lt] at h ⊢
  have e0 : (0 : Int32).toInt = 0 := by decide
  have e1 : (1 : Int32).toInt = 1 := by decide
  omega
theorem fl_mark (hs : SL size need lifted licked morning tally kinds places lengths downs covers v n) (hw : WF v n B) (ha : AR now v) (fi : Int32) {F4 F5 : Nat → Int32} (hF : ∀ j, j < 6 → F4 j = F5 j) (x1 x2 : Int32) : ∃ r fi' F4' F5', fX4_mark fi size kinds places lengths downs covers F4 x1 x2 = some (r, fi', F4') ∧ fX5_mark fi now F5 x1 x2 = some (r, fi', F5') ∧ ∀ j, j < 6 → F4' j = F5' j := by
  have hn6 := hw.2.1
  rcases spl x1 (k := n) (by omega) with ⟨i, hi, rfl⟩ | hx
  rotate_left
  · exact ⟨_, _, _, _, by unfold fX4_mark; rw [c_has0 hs hx, bd1_s, if_pos rfl], by unfold fX5_mark; rw [m_isPeel0 ha hw hx, bd1_s, if_pos rfl], hF⟩
  rcases spl x2 (k := 6) (by decide) with ⟨w, hwi, rfl⟩ | hx
  rotate_left
  · have z4 : fX4_isIn x2 6 = some 0 := (inK0 (k := 5) (by decide) hx).1
    have z5 : fX5_in0 x2 1 5 = some 0 := by
      rw [in0_eq]
      rcases hx with hx | hx
      · rw [if_pos (lt1 hx)]
      · have h5 : (5 : Int32) < x2 := i5_lt (k := 5) (by decide) hx
        by_cases c : x2 < 1
        · rw [if_pos c]
        · rw [if_neg c, if_pos h5]
    refine ⟨-1, fi, F4, F5, ?_, by unfold fX5_mark; rw [m_isPeel1 ha hw hi, bd1_s, if_neg one_ne, z5, bd1_s, if_pos rfl], hF⟩
    unfold fX4_mark
    rw [c_has1 hs hw hi, bd1_s, if_neg one_ne]
    by_cases c : x2 = 0
    · rw [if_pos c]
    · rw [if_neg c, z4, bd1_s, if_pos rfl]
  by_cases w0 : w = 0
  · subst w0
    have z5 : fX5_in0 (nI 0) 1 5 = some 0 := by decide
    exact ⟨_, _, _, _, by unfold fX4_mark; rw [c_has1 hs hw hi, bd1_s, if_neg one_ne, if_pos (by decide)], by unfold fX5_mark; rw [m_isPeel1 ha hw hi, bd1_s, if_neg one_ne, z5, bd1_s, if_pos rfl], hF⟩
  obtain ⟨c0, z4, z5⟩ := in6_all w hwi w0
  obtain ⟨b0, -⟩ := hw.2.2.2.2.2.2.2 i hi
  obtain ⟨s0, -⟩ := hs.2.2.2.2.2.2 i hi
  obtain ⟨o4, o5⟩ := of_all _ b0 w hwi
  have eo : fX3_isOf size kinds (nI i) (nI w) = some (nI (ofN (kdV v i) w)) := by
    unfold fX3_isOf
    rw [c_has1 hs hw hi, bd1_s, if_neg one_ne, a6 (by omega), s0, bd1_s, o4]
  have ep := (p35 ha (i := i) (by omega)).1
  by_cases co : ofN (kdV v i) w = 1
  · obtain ⟨x, t4, t5⟩ := mk_eq hs hw ha hi hwi w0 fi F5 co
    have c1 : ¬ nI (ofN (kdV v i) w) = 0 := by rw [co]; decide
    refine ⟨x, fi, F4, F5, by unfold fX4_mark; rw [c_has1 hs hw hi, bd1_s, if_neg one_ne, if_neg c0, z4, bd1_s, if_neg one_ne, eo, bd1_s, if_neg c1, t4, bd1_s], ?_, hF⟩
    unfold fX5_mark
    rw [m_isPeel1 ha hw hi, bd1_s, if_neg one_ne, z5, bd1_s, if_neg one_ne, ep, bd1_s, o5, bd1_s, if_neg c1]
    exact t5
  · have co : ofN (kdV v i) w = 0 := by
      unfold ofN at co ⊢
      by_cases c : kdV v i = w ∨ (kdV v i = 4 ∧ w = 1) ∨ (kdV v i = 5 ∧ w = 2)
      · rw [if_pos c] at co; omega
      · rw [if_neg c]
    have c1 : nI (ofN (kdV v i) w) = 0 := by rw [co]; rfl
    exact ⟨_, _, _, _, by unfold fX4_mark; rw [c_has1 hs hw hi, bd1_s, if_neg one_ne, if_neg c0, z4, bd1_s, if_neg one_ne, eo, bd1_s, if_pos c1, fd4_3, bd3_s], by unfold fX5_mark; rw [m_isPeel1 ha hw hi, bd1_s, if_neg one_ne, z5, bd1_s, if_neg one_ne, ep, bd1_s, o5, bd1_s, if_pos c1, fd5_3, bd3_s], upd_eq6 hF (by decide)⟩
theorem fl_covers (hs : SL size need lifted licked morning tally kinds places lengths downs covers v n) (hw : WF v n B) (ha : AR now v) (x1 x2 x3 : Int32) : ∃ r, fX4_covers size kinds lengths x1 x2 x3 = some r ∧ fX5_covers now x1 x2 x3 = some r := by
  have hn6 := hw.2.1
  rcases spl x1 (k := n) (by omega) with ⟨i, hi, rfl⟩ | hx
  rotate_left
  · exact ⟨_, by unfold fX4_covers; rw [c_has0 hs hx, bd1_s, if_pos rfl], by unfold fX5_covers; rw [m_isPeel0 ha hw hx, bd1_s, if_pos rfl]⟩
  rcases spl x2 (k := 16) (by decide) with ⟨p, hp, rfl⟩ | hx
  rotate_left
  · exact ⟨_, by unfold fX4_covers; rw [c_has1 hs hw hi, bd1_s, if_neg one_ne, (in16_0 hx).1, bd1_s, if_pos rfl], by unfold fX5_covers; rw [m_isPeel1 ha hw hi, bd1_s, if_neg one_ne, (in16_0 hx).2, bd1_s, if_pos rfl]⟩
  rcases spl x3 (k := 2) (by decide) with ⟨d, hd, rfl⟩ | hx
  rotate_left
  · have z4 : fX4_isIn x3 2 = some 0 := (inK0 (k := 1) (by decide) hx).1
    have z5 : fX5_in0 x3 0 1 = some 0 := (inK0 (k := 1) (by decide) hx).2
    exact ⟨_, by unfold fX4_covers; rw [c_has1 hs hw hi, bd1_s, if_neg one_ne, (in16 p hp).1, bd1_s, if_neg one_ne, z4, bd1_s, if_pos rfl], by unfold fX5_covers; rw [m_isPeel1 ha hw hi, bd1_s, if_neg one_ne, (in16 p hp).2, bd1_s, if_neg one_ne, z5, bd1_s, if_pos rfl]⟩
  have z4 : fX4_isIn (nI d) 2 = some 1 := (inK1 (k := 1) (by decide) (by omega)).1
  have z5 : fX5_in0 (nI d) 0 1 = some 1 := (inK1 (k := 1) (by decide) (by omega)).2
  obtain ⟨b0, -, b2, -, -⟩ := hw.2.2.2.2.2.2.2 i hi
  obtain ⟨p0, -, p2, -, -⟩ := p35 ha (i := i) (by omega)
  exact ⟨_, by unfold fX4_covers; rw [c_has1 hs hw hi, bd1_s, if_neg one_ne, (in16 p hp).1, bd1_s, if_neg one_ne, z4, bd1_s, if_neg one_ne, c_coverAt hs hw hi hp hd, bd1_s], by unfold fX5_covers; rw [m_isPeel1 ha hw hi, bd1_s, if_neg one_ne, (in16 p hp).2, bd1_s, if_neg one_ne, z5, bd1_s, if_neg one_ne, p0, bd1_s, p2, bd1_s, (cov_ok b0 hp b2 hd).2.1, bd1_s]⟩
theorem fl_covered (hs : SL size need lifted licked morning tally kinds places lengths downs covers v n) (hw : WF v n B) (ha : AR now v) (asked : Int32) : ∃ r a, fX4_covered asked size need lifted licked covers = some (r, a) ∧ fX5_covered asked now = some (r, a) := by
  by_cases n0 : n = 0
  · exact ⟨_, _, by unfold fX4_covered; rw [if_pos (c_any0 hs n0)], by unfold fX5_covered; rw [m_any0 ha hw n0, bd1_s, if_pos rfl]⟩
  have e5 : fX5_coveredBut 35 now 0 = _ := m_coveredBut ha hw (but := 0) (by decide)
  exact ⟨_, _, by unfold fX4_covered; rw [if_neg (c_any1 hs hw n0), c_linesNow hs hw (by omega), bd1_s, c_coveredNow hs hw, bd1_s], by unfold fX5_covered; rw [m_any1 ha hw n0, bd1_s, if_neg one_ne, m_linesIn ha hw, bd1_s]; unfold fX5_tells; rw [bd2_s, e5, bd1_s]⟩
def woN (v : Nat → Nat) (l n : Nat) : Nat := sumN (fun i => if lfV v i = 1 ∨ cvV v i &&& lineN l = 0 then 0 else wgN (kdV v i)) n
theorem c_wo_L (hs : SL size need lifted licked morning tally kinds places lengths downs covers v n) (hw : WF v n B) {l : Nat} : ∀ (m k fuel : Nat), k + m = n → m < fuel → fX3_weightOn_L25 size lifted kinds covers (nI (lineN l)) fuel (nI (woN v l k)) (nI k) = some (nI (woN v l n)) := by
  have hn6 := hw.2.1
  intro m
  induction m with
  | zero =>
    intro k fuel h1 h2
    obtain ⟨f, rfl⟩ : ∃ f, fuel = f + 1 := ⟨fuel - 1, by omega⟩
    have hk : k = n := by omega
    subst hk
    show fX3_weightOn_B25 _ _ _ _ _ _ _ _ = _
    unfold fX3_weightOn_B25
    rw [hs.1, if_pos (nI_le (Nat.le_refl k) (by omega))]
  | succ m ih =>
    intro k fuel h1 h2
    obtain ⟨f, rfl⟩ : ∃ f, fuel = f + 1 := ⟨fuel - 1, by omega⟩
    obtain ⟨b0, -, -, -, b4⟩ := hw.2.2.2.2.2.2.2 k (by omega)
    obtain ⟨s0, -, -, -, s4⟩ := hs.2.2.2.2.2.2 k (by omega)
    have c6 : ¬ (6 : Int32) ≤ nI k := nI_ge (a := k) (b := 6) (by omega) (by decide)
    have c0 : ¬ size ≤ nI k := by rw [hs.1]; exact nI_ge (by omega) (by omega)
    have hal : cvV v k &&& lineN l < 65536 := and_lt (cvV_lt hw (by omega))
    obtain ⟨w1, -, w3⟩ := wg_all _ b0
    have hr : ∀ z, z = (if lfV v k = 1 ∨ cvV v k &&& lineN l = 0 then 0 else wgN (kdV v k)) → fX3_weightOn_L25 size lifted kinds covers (nI (lineN l)) f (nI (woN v l k + z)) (nI k + 1) = some (nI (woN v l n)) := by
      intro z hz
      rw [nI_1]
      have := ih (k + 1) f (by omega) (by omega)
      rw [show woN v l (k + 1) = woN v l k + z by rw [hz]; rfl] at this
      exact this
    have el : fX3_isLifted lifted (nI k) = some (nI (lfV v k)) := by rw [hs.2.2.1]; exact c_isLifted hw (by omega)
    show fX3_weightOn_B25 _ _ _ _ _ _ _ _ = _
    unfold fX3_weightOn_B25
    rw [if_neg c0, if_neg c6, el, bd1_s]
    by_cases c1 : lfV v k = 0
    · rw [if_pos (by rw [c1]; rfl), a6 (by omega), s4, bd1_s, n_and]
      by_cases c2 : cvV v k &&& lineN l = 0
      · rw [if_pos (by rw [c2]; rfl)]
        exact hr 0 (by rw [if_pos (Or.inr c2)])
      · rw [if_neg (fun z => c2 ((nI_eq0 (by omega)).mp z)), a6 (by omega), s0, bd1_s, w1, bd1_s, nI_add]
        exact hr (wgN (kdV v k)) (by rw [if_neg (by omega)])
    · rw [if_neg (fun z => c1 ((nI_eq0 (by omega)).mp z))]
      exact hr 0 (by rw [if_pos (Or.inl (by omega))])
theorem m_wo_L (ha : AR now v) (hw : WF v n B) {l : Nat} (hl : l < 8) : ∀ (m k fuel : Nat), k + m = n → m < fuel → fX5_weighs_L26 now (nI l) fuel (nI (woN v l k)) (nI k) = some (nI (woN v l n)) := by
  have hn6 := hw.2.1
  intro m
  induction m with
  | zero =>
    intro k fuel h1 h2
    obtain ⟨f, rfl⟩ : ∃ f, fuel = f + 1 := ⟨fuel - 1, by omega⟩
    have hk : k = n := by omega
    subst hk
    show fX5_weighs_B26 _ _ _ _ _ = _
    unfold fX5_weighs_B26
    rw [r35_1 ha, bd1_s, hw.1, if_pos (nI_le (Nat.le_refl k) (by omega))]
  | succ m ih =>
    intro k fuel h1 h2
    obtain ⟨f, rfl⟩ : ∃ f, fuel = f + 1 := ⟨fuel - 1, by omega⟩
    obtain ⟨b0, -, -, -, b4⟩ := hw.2.2.2.2.2.2.2 k (by omega)
    obtain ⟨p0, -, -, -, p4⟩ := p35 ha (i := k) (by omega)
    have hal : cvV v k &&& lineN l < 65536 := and_lt (cvV_lt hw (by omega))
    obtain ⟨-, w1, w3⟩ := wg_all _ b0
    have hr : ∀ z, z = (if lfV v k = 1 ∨ cvV v k &&& lineN l = 0 then 0 else wgN (kdV v k)) → fX5_weighs_L26 now (nI l) f (nI (woN v l k) + nI z) (nI k + 1) = some (nI (woN v l n)) := by
      intro z hz
      rw [nI_1, nI_add]
      have := ih (k + 1) f (by omega) (by omega)
      rw [show woN v l (k + 1) = woN v l k + z by rw [hz]; rfl] at this
      exact this
    show fX5_weighs_B26 _ _ _ _ _ = _
    unfold fX5_weighs_B26
    rw [r35_1 ha, bd1_s, hw.1, if_neg (nI_ge (by omega) (by omega)), p4, bd1_s]
    by_cases c1 : lfV v k = 0
    · rw [if_pos (by rw [c1]; rfl), m_coverOf ha hw (by omega), bd1_s, (lineN_all l hl).1, bd1_s, n_and]
      by_cases c2 : cvV v k &&& lineN l = 0
      · rw [if_pos (by rw [c2]; rfl)]
        exact hr 0 (by rw [if_pos (Or.inr c2)])
      · rw [if_neg (fun z => c2 ((nI_eq0 (by omega)).mp z))]
        unfold fX5_weighs_j72
        rw [if_neg one_ne, p0, bd1_s, w1, bd1_s]
        exact hr (wgN (kdV v k)) (by rw [if_neg (by omega)])
    · rw [if_neg (fun z => c1 ((nI_eq0 (by omega)).mp z))]
      exact hr 0 (by rw [if_pos (Or.inl (by omega))])
theorem in8_0 {x : Int32} (h : x < 0 ∨ nI 8 ≤ x) : fX4_isIn x 8 = some 0 ∧ fX5_in0 x 0 7 = some 0 := inK0 (k := 7) (by decide) h
theorem in8_1 {l : Nat} (h : l < 8) : fX4_isIn (nI l) 8 = some 1 ∧ fX5_in0 (nI l) 0 7 = some 1 := inK1 (k := 7) (by decide) (by omega)
theorem fl_weighs (hs : SL size need lifted licked morning tally kinds places lengths downs covers v n) (hw : WF v n B) (ha : AR now v) (x1 : Int32) : ∃ r, fX4_weighs size lifted kinds covers x1 = some r ∧ fX5_weighs now x1 = some r := by
  have hn6 := hw.2.1
  rcases spl x1 (k := 8) (by decide) with ⟨l, hl, rfl⟩ | hx
  rotate_left
  · exact ⟨_, by unfold fX4_weighs; rw [(in8_0 hx).1, bd1_s, if_pos rfl], by unfold fX5_weighs; rw [(in8_0 hx).2, bd1_s, if_pos rfl]⟩
  by_cases n0 : n = 0
  · exact ⟨_, by unfold fX4_weighs; rw [(in8_1 hl).1, bd1_s, if_neg one_ne, if_pos (c_any0 hs n0)], by unfold fX5_weighs; rw [(in8_1 hl).2, bd1_s, if_neg one_ne, m_any0 ha hw n0, bd1_s, if_pos rfl]⟩
  refine ⟨nI (woN v l n), ?_, ?_⟩
  · unfold fX4_weighs
    rw [(in8_1 hl).1, bd1_s, if_neg one_ne, if_neg (c_any1 hs hw n0)]
    unfold fX3_weightOn
    have c8 : ¬ (8 : Int32) ≤ nI l := nI_ge (a := l) (b := 8) hl (by decide)
    have e8 : ald 8 lineP (nI l) = some (nI (lineN l)) := by rw [ald_nI hl (by decide), (lineN_all l hl).2.1]
    rw [if_neg (nI_pos (by omega)), if_neg c8, e8, bd1_s]
    unfold fX3_weightOn_j21
    have e : fX3_weightOn_L25 size lifted kinds covers (nI (lineN l)) FU 0 0 = _ := c_wo_L hs hw (l := l) n 0 FU (by omega) (Nat.lt_of_le_of_lt hn6 (by decide))
    rw [e, bd1_s, bd1_s]
  · have e : fX5_weighs_L26 now (nI l) FU 0 0 = _ := m_wo_L ha hw hl n 0 FU (by omega) (Nat.lt_of_le_of_lt hn6 (by decide))
    unfold fX5_weighs
    rw [(in8_1 hl).2, bd1_s, if_neg one_ne, m_any1 ha hw n0, bd1_s, if_neg one_ne, e, bd1_s]
end
theorem step_peel : Step_peel Rel := by
  intro c d h x1 x2
  obtain ⟨⟨a1, a2, a3, a4, a5⟩, hB, hC, n, V, q, k, hD⟩ := h
  obtain ⟨hw, hs, ha, -⟩ := hD.get
  obtain ⟨r, a, e4, e5⟩ := fl_peel hs hw ha (ms_asked d) x1 x2
  rw [← a2] at e4
  exact go2 (map_some e4) (map_some e5) rfl ⟨⟨a1, rfl, a3, a4, a5⟩, hB, hC, n, V, q, k, hD⟩
theorem step_mark : Step_mark Rel := by
  intro c d h x1 x2
  obtain ⟨⟨a1, a2, a3, a4, a5⟩, hB, hC, n, V, q, k, hD⟩ := h
  obtain ⟨hw, hs, ha, -⟩ := hD.get
  obtain ⟨r, fi, F4, F5, e4, e5, hF⟩ := fl_mark hs hw ha (ms_finding d) a5 x1 x2
  rw [← a1] at e4
  exact go2 (map_some e4) (map_some e5) rfl ⟨⟨rfl, a2, a3, a4, hF⟩, hB, hC, n, V, q, k, hD⟩
theorem step_covers : Step_covers Rel := by
  intro c d h x1 x2 x3
  obtain ⟨hA, hB, hC, n, V, q, k, hD⟩ := h
  obtain ⟨hw, hs, ha, -⟩ := hD.get
  obtain ⟨r, e4, e5⟩ := fl_covers hs hw ha x1 x2 x3
  exact go2 (map_some e4) (map_some e5) rfl ⟨hA, hB, hC, n, V, q, k, hD⟩
theorem step_covered : Step_covered Rel := by
  intro c d h
  obtain ⟨⟨a1, a2, a3, a4, a5⟩, hB, hC, n, V, q, k, hD⟩ := h
  obtain ⟨hw, hs, ha, -⟩ := hD.get
  obtain ⟨r, a, e4, e5⟩ := fl_covered hs hw ha (ms_asked d)
  rw [← a2] at e4
  exact go2 (map_some e4) (map_some e5) rfl ⟨⟨a1, rfl, a3, a4, a5⟩, hB, hC, n, V, q, k, hD⟩
theorem step_weighs : Step_weighs Rel := by
  intro c d h x1
  obtain ⟨hA, hB, hC, n, V, q, k, hD⟩ := h
  obtain ⟨hw, hs, ha, -⟩ := hD.get
  obtain ⟨r, e4, e5⟩ := fl_weighs hs hw ha x1
  exact go2 (map_some e4) (map_some e5) rfl ⟨hA, hB, hC, n, V, q, k, hD⟩
