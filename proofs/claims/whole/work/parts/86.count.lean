/-! ===== pure: count, digest ===== -/
def thN (sz : Nat → Int32) : Nat → Nat
  | 0 => 0
  | k + 1 => thN sz k + (if sz k = -1 then 0 else 1)
theorem s_amount_L {sz : Nat → Int32} {m : Nat} (hm : m < 1000) : ∀ (q k fuel : Nat), k + q = m → q < fuel → fX2_amount_L4 m sz fuel (nI (thN sz k)) (nI k) = some (nI (thN sz m)) := by
  intro q
  induction q with
  | zero =>
    intro k fuel h1 h2
    obtain ⟨f, rfl⟩ : ∃ f, fuel = f + 1 := ⟨fuel - 1, by omega⟩
    have hk : k = m := by omega
    subst hk
    show fX2_amount_B4 _ _ _ _ _ = _
    unfold fX2_amount_B4
    exact if_pos (nI_le (Nat.le_refl k) (by omega))
  | succ q ih =>
    intro k fuel h1 h2
    obtain ⟨f, rfl⟩ : ∃ f, fuel = f + 1 := ⟨fuel - 1, by omega⟩
    have c2 : ¬ Int32.ofNat m ≤ nI k := nI_ge (by omega) (by omega)
    have hi := ih (k + 1) f (by omega) (by omega)
    show fX2_amount_B4 _ _ _ _ _ = _
    unfold fX2_amount_B4 fX2_amount_j26
    rw [if_neg c2, ald_nI (by omega) (by omega), bd1_s]
    rw [thN] at hi
    by_cases c : sz k = -1
    · rw [if_pos c] at hi
      rw [if_pos c, nI_1]
      exact hi
    · rw [if_neg c] at hi
      rw [if_neg c, nI_1, nI_1]
      exact hi
theorem s_amount {sz : Nat → Int32} {m : Nat} (hm : m < 1000) : fX2_amount m sz = some (nI (thN sz m)) := by
  have e : fX2_amount_L4 m sz FU 0 0 = _ := s_amount_L (sz := sz) hm m 0 FU (by omega) (Nat.lt_trans hm (by decide))
  unfold fX2_amount
  rw [e, bd1_s]
theorem m_there_L {sz rsz : Nat → Int32} {m : Nat} (hm : m < 1000) (he : ∀ r, r < m → (sz r = -1 ↔ rsz r = -9)) : ∀ (q k fuel : Nat), k + q = m → q < fuel → fX5_there_L4 m rsz fuel (nI (thN sz k)) (nI k) = some (nI (thN sz m)) := by
  intro q
  induction q with
  | zero =>
    intro k fuel h1 h2
    obtain ⟨f, rfl⟩ : ∃ f, fuel = f + 1 := ⟨fuel - 1, by omega⟩
    have hk : k = m := by omega
    subst hk
    show fX5_there_B4 _ _ _ _ _ = _
    unfold fX5_there_B4
    exact if_pos (nI_le (Nat.le_refl k) (by omega))
  | succ q ih =>
    intro k fuel h1 h2
    obtain ⟨f, rfl⟩ : ∃ f, fuel = f + 1 := ⟨fuel - 1, by omega⟩
    have c2 : ¬ Int32.ofNat m ≤ nI k := nI_ge (by omega) (by omega)
    have hi := ih (k + 1) f (by omega) (by omega)
    show fX5_there_B4 _ _ _ _ _ = _
    unfold fX5_there_B4 fX5_there_j24
    rw [if_neg c2, ald_nI (by omega) (by omega), bd1_s]
    rw [thN] at hi
    by_cases c : sz k = -1
    · rw [if_pos c] at hi
      rw [if_pos ((he k (by omega)).mp c), nI_1, Int32.add_zero]
      exact hi
    · rw [if_neg c] at hi
      rw [if_neg (fun z => c ((he k (by omega)).mpr z)), nI_1, nI_1]
      exact hi
theorem m_there {sz rsz : Nat → Int32} {m : Nat} (hm : m < 1000) (he : ∀ r, r < m → (sz r = -1 ↔ rsz r = -9)) : fX5_there m rsz = some (nI (thN sz m)) := by
  have e : fX5_there_L4 m rsz FU 0 0 = _ := m_there_L hm he m 0 FU (by omega) (Nat.lt_trans hm (by decide))
  unfold fX5_there
  rw [e, bd1_s]
theorem RW.miss {m w : Nat} {ok : Int32 → Prop} {sizes items rsz rit : Nat → Int32} (h : RW m w ok sizes items rsz rit) (hw : w < 2 ^ 31) : ∀ r, r < m → (sizes r = -1 ↔ rsz r = -9) := by
  intro r hr
  rcases h r hr with ⟨s1, s2⟩ | ⟨k, hk, s1, s2, -⟩
  · exact ⟨fun _ => s2, fun _ => s1⟩
  · rw [s1, s2]
    exact ⟨fun z => absurd z (m1_ne (by omega)).1, fun z => absurd z (m1_ne (by omega)).2⟩
def koN (v : Nat → Nat) (w n : Nat) : Nat := sumN (fun i => ofN (kdV v i) w) n
theorem lnB0 (q x : Int32) : fX3_linesBy 0 q x = some 0 := by
  have h : ∀ f, fX3_linesBy_L4 0 q x (f + 1) 0 0 = some 0 := by
    intro f
    show fX3_linesBy_B4 _ _ _ _ _ _ = _
    unfold fX3_linesBy_B4
    rw [if_neg (by decide), if_pos (by decide)]
  have h : fX3_linesBy_L4 0 q x FU 0 0 = some 0 := h 99999
  unfold fX3_linesBy
  rw [h, bd1_s]
section
variable {size need lifted licked morning tally : Int32} {kinds places lengths downs covers now : Nat → Int32} {v : Nat → Nat} {n B : Nat}
theorem c_ko_L (hs : SL size need lifted licked morning tally kinds places lengths downs covers v n) (hw : WF v n B) {w : Nat} (hwk : w < 6) : ∀ (m k fuel : Nat), k + m = n → m < fuel → fX3_amountOf_L4 size kinds (nI w) fuel (nI (koN v w k)) (nI k) = some (nI (koN v w n)) := by
  have hn6 := hw.2.1
  intro m
  induction m with
  | zero =>
    intro k fuel h1 h2
    obtain ⟨f, rfl⟩ : ∃ f, fuel = f + 1 := ⟨fuel - 1, by omega⟩
    have hk : k = n := by omega
    subst hk
    show fX3_amountOf_B4 _ _ _ _ _ _ = _
    unfold fX3_amountOf_B4
    rw [hs.1, if_pos (nI_le (Nat.le_refl k) (by omega))]
  | succ m ih =>
    intro k fuel h1 h2
    obtain ⟨f, rfl⟩ : ∃ f, fuel = f + 1 := ⟨fuel - 1, by omega⟩
    obtain ⟨b0, -⟩ := hw.2.2.2.2.2.2.2 k (by omega)
    obtain ⟨s0, -⟩ := hs.2.2.2.2.2.2 k (by omega)
    have c0 : ¬ size ≤ nI k := by rw [hs.1]; exact nI_ge (by omega) (by omega)
    have eo : fX3_isOf size kinds (nI k) (nI w) = some (nI (ofN (kdV v k) w)) := by
      unfold fX3_isOf
      rw [c_has1 hs hw (by omega), bd1_s, if_neg one_ne, a6 (by omega), s0, bd1_s, (of_all _ b0 w hwk).1]
    have hi := ih (k + 1) f (by omega) (by omega)
    rw [show koN v w (k + 1) = koN v w k + ofN (kdV v k) w from rfl] at hi
    show fX3_amountOf_B4 _ _ _ _ _ _ = _
    unfold fX3_amountOf_B4 fX3_amountOf_j24
    rw [if_neg c0, eo, bd1_s]
    unfold ofN at hi ⊢
    split at hi
    · next c =>
      rw [if_pos c, if_neg (by decide), nI_1, nI_1]
      exact hi
    · next c =>
      rw [if_neg c, if_pos (by decide), nI_1]
      exact hi
theorem m_ko_L (ha : AR now v) (hw : WF v n B) {w : Nat} (hwk : w < 6) : ∀ (m k fuel : Nat), k + m = n → m < fuel → fX5_kindsThere_L4 now (nI w) fuel (nI (koN v w k)) (nI k) = some (nI (koN v w n)) := by
  have hn6 := hw.2.1
  intro m
  induction m with
  | zero =>
    intro k fuel h1 h2
    obtain ⟨f, rfl⟩ : ∃ f, fuel = f + 1 := ⟨fuel - 1, by omega⟩
    have hk : k = n := by omega
    subst hk
    show fX5_kindsThere_B4 _ _ _ _ _ = _
    unfold fX5_kindsThere_B4
    rw [r35_1 ha, bd1_s, hw.1, if_pos (nI_le (Nat.le_refl k) (by omega))]
  | succ m ih =>
    intro k fuel h1 h2
    obtain ⟨f, rfl⟩ : ∃ f, fuel = f + 1 := ⟨fuel - 1, by omega⟩
    obtain ⟨b0, -⟩ := hw.2.2.2.2.2.2.2 k (by omega)
    obtain ⟨p0, -⟩ := p35 ha (i := k) (by omega)
    have hi := ih (k + 1) f (by omega) (by omega)
    rw [show koN v w (k + 1) = koN v w k + ofN (kdV v k) w from rfl] at hi
    show fX5_kindsThere_B4 _ _ _ _ _ = _
    unfold fX5_kindsThere_B4 fX5_kindsThere_j37
    rw [r35_1 ha, bd1_s, hw.1, if_neg (nI_ge (by omega) (by omega)), p0, bd1_s, (of_all _ b0 w hwk).2, bd1_s]
    unfold ofN at hi ⊢
    split at hi
    · next c =>
      rw [if_pos c, if_neg (by decide), nI_1, nI_1]
      exact hi
    · next c =>
      rw [if_neg c, if_pos (by decide), nI_1, Int32.add_zero]
      exact hi
theorem c_ko (hs : SL size need lifted licked morning tally kinds places lengths downs covers v n) (hw : WF v n B) {w : Nat} (hwk : w < 6) : fX3_amountOf size kinds (nI w) = some (nI (koN v w n)) := by
  have e : fX3_amountOf_L4 size kinds (nI w) FU 0 0 = _ := c_ko_L hs hw hwk n 0 FU (by omega) (Nat.lt_of_le_of_lt hw.2.1 (by decide))
  unfold fX3_amountOf
  rw [e, bd1_s]
theorem m_ko (ha : AR now v) (hw : WF v n B) {w : Nat} (hwk : w < 6) : fX5_kindsThere now (nI w) = some (nI (koN v w n)) := by
  have e : fX5_kindsThere_L4 now (nI w) FU 0 0 = _ := m_ko_L ha hw hwk n 0 FU (by omega) (Nat.lt_of_le_of_lt hw.2.1 (by decide))
  unfold fX5_kindsThere
  rw [e, bd1_s]
theorem m_lifted_L (ha : AR now v) (hw : WF v n B) : ∀ (m k fuel : Nat), k + m = n → m < fuel → fX5_lifted_L4 35 now fuel (nI (lfN v k)) (nI k) = some (nI (lfN v n)) := by
  have hn6 := hw.2.1
  intro m
  induction m with
  | zero =>
    intro k fuel h1 h2
    obtain ⟨f, rfl⟩ : ∃ f, fuel = f + 1 := ⟨fuel - 1, by omega⟩
    have hk : k = n := by omega
    subst hk
    show fX5_lifted_B4 _ _ _ _ _ = _
    unfold fX5_lifted_B4
    rw [r35_1 ha, bd1_s, hw.1, if_pos (nI_le (Nat.le_refl k) (by omega))]
  | succ m ih =>
    intro k fuel h1 h2
    obtain ⟨f, rfl⟩ : ∃ f, fuel = f + 1 := ⟨fuel - 1, by omega⟩
    obtain ⟨-, -, -, -, b4⟩ := hw.2.2.2.2.2.2.2 k (by omega)
    obtain ⟨-, -, -, -, p4⟩ := p35 ha (i := k) (by omega)
    have hi := ih (k + 1) f (by omega) (by omega)
    have hlt := lfN_lt (v := v) (n := k) (fun i hi => (hw.2.2.2.2.2.2.2 i (by omega)).2.2.2.2)
    have h64 : 2 ^ k ≤ 64 := pow6 (by omega)
    have hor : lfN v k ||| lfV v k * 2 ^ k = lfN v (k + 1) := by
      have := Nat.two_pow_add_eq_or_of_lt hlt (lfV v k)
      rw [Nat.or_comm, Nat.mul_comm (lfV v k), ← this, Nat.add_comm, Nat.mul_comm (2 ^ k)]
      rfl
    have hmul : lfV v k * 2 ^ k < 2 ^ 32 := by
      rcases (show lfV v k = 0 ∨ lfV v k = 1 by omega) with e | e <;> rw [e] <;> omega
    show fX5_lifted_B4 _ _ _ _ _ = _
    unfold fX5_lifted_B4
    rw [r35_1 ha, bd1_s, hw.1, if_neg (nI_ge (by omega) (by omega)), p4, bd1_s, n_shl (by omega) hmul, n_or, hor, nI_1]
    exact hi
theorem m_lifted (ha : AR now v) (hw : WF v n B) : fX5_lifted 35 now = some (nI (lfN v n)) := by
  have e : fX5_lifted_L4 35 now FU 0 0 = _ := m_lifted_L ha hw n 0 FU (by omega) (Nat.lt_of_le_of_lt hw.2.1 (by decide))
  unfold fX5_lifted
  rw [e, bd1_s]
variable {rs ri ms mr ts ti ns nr dsz kd : Nat → Int32} {k : Nat} {deeds : Int32}
theorem cn_eq (hs : SL size need lifted licked morning tally kinds places lengths downs covers v n) (hw : WF v n B) (ha : AR now v) (hR : RW 6 40 (fun _ => True) rs ri ms mr) (hT : RW 4 60 byteR ts ti ns nr) (hk : k ≤ 40) (hd : dsz 3 = nI k) (he : deeds = nI k) (hkd : ∀ t, t < 3 → (dsz t = -1 ↔ kd t = -9)) {w : Nat} (hwc : w < 14) : ∃ x, fX4_count rs ts dsz size need lifted licked morning tally kinds covers (nI w) = some x ∧ fX5_count deeds ms ns now kd (nI w) = some x := by
  have hn6 := hw.2.1
  unfold fX4_count fX5_count
  rcases (show w = 0 ∨ w = 1 ∨ w = 2 ∨ w = 3 ∨ w = 4 ∨ w = 5 ∨ w = 6 ∨ w = 7 ∨ w = 8 ∨ w = 9 ∨ w = 10 ∨ w = 11 ∨ w = 12 ∨ w = 13 by omega) with rfl | rfl | rfl | rfl | rfl | rfl | rfl | rfl | rfl | rfl | rfl | rfl | rfl | rfl
  · exact ⟨nI n, by rw [if_pos (by decide)]; rw [hs.1], by rw [if_pos (by decide)]; rw [r35_1 ha, bd1_s, hw.1]⟩
  · exact ⟨nI (v 0), by rw [if_neg (by decide), if_pos (by decide)]; rw [hs.2.1], by rw [if_neg (by decide), if_pos (by decide)]; rw [r35_0 ha, bd1_s]⟩
  · exact ⟨nI (v 2), by rw [if_neg (by decide), if_neg (by decide), if_pos (by decide)]; rw [hs.2.2.2.2.1], by rw [if_neg (by decide), if_neg (by decide), if_pos (by decide)]; rw [r35_2 ha, bd1_s]⟩
  · exact ⟨_, by rw [if_neg (by decide), if_neg (by decide), if_neg (by decide), if_pos (by decide)]; rw [show fX2_sizeOf 4 dsz 3 = some (dsz 3) from s_sizeOf (m := 4) (r := 3) (by decide) (by decide), bd1_s, hd], by rw [if_neg (by decide), if_neg (by decide), if_neg (by decide), if_pos (by decide)]; rw [he]⟩
  · exact ⟨nI (v 3), by rw [if_neg (by decide), if_neg (by decide), if_neg (by decide), if_neg (by decide), if_pos (by decide)]; rw [hs.2.2.2.2.2.1], by rw [if_neg (by decide), if_neg (by decide), if_neg (by decide), if_neg (by decide), if_pos (by decide)]; rw [r35_3 ha, bd1_s]⟩
  · exact ⟨nI (lfN v n), by rw [if_neg (by decide), if_neg (by decide), if_neg (by decide), if_neg (by decide), if_neg (by decide), if_pos (by decide)]; rw [hs.2.2.1], by rw [if_neg (by decide), if_neg (by decide), if_neg (by decide), if_neg (by decide), if_neg (by decide), if_pos (by decide)]; rw [m_lifted ha hw, bd1_s]⟩
  · exact ⟨nI (v 4), by rw [if_neg (by decide), if_neg (by decide), if_neg (by decide), if_neg (by decide), if_neg (by decide), if_neg (by decide), if_pos (by decide)]; rw [hs.2.2.2.1], by rw [if_neg (by decide), if_neg (by decide), if_neg (by decide), if_neg (by decide), if_neg (by decide), if_neg (by decide), if_pos (by decide)]; rw [r35_4 ha, bd1_s]⟩
  · by_cases n0 : n = 0
    · refine ⟨0, ?_, by rw [if_neg (by decide), if_neg (by decide), if_neg (by decide), if_neg (by decide), if_neg (by decide), if_neg (by decide), if_neg (by decide), if_pos (by decide)]; rw [m_any0 ha hw n0, bd1_s, if_pos rfl]⟩
      rw [if_neg (by decide), if_neg (by decide), if_neg (by decide), if_neg (by decide), if_neg (by decide), if_neg (by decide), if_neg (by decide), if_pos (by decide)]
      unfold fX3_linesNow
      rw [c_but hs hw, bd1_s, c_any0 hs n0, lnB0, bd1_s, bd1_s]
    · exact ⟨_, by rw [if_neg (by decide), if_neg (by decide), if_neg (by decide), if_neg (by decide), if_neg (by decide), if_neg (by decide), if_neg (by decide), if_pos (by decide)]; rw [c_linesNow hs hw (by omega), bd1_s], by rw [if_neg (by decide), if_neg (by decide), if_neg (by decide), if_neg (by decide), if_neg (by decide), if_neg (by decide), if_neg (by decide), if_pos (by decide)]; rw [m_any1 ha hw n0, bd1_s, if_neg one_ne, m_linesIn ha hw, bd1_s]⟩
  · have e5 : fX5_coveredBut 35 now 0 = _ := m_coveredBut ha hw (but := 0) (by decide)
    have hc := cdV_lt hw 0
    exact ⟨_, by rw [if_neg (by decide), if_neg (by decide), if_neg (by decide), if_neg (by decide), if_neg (by decide), if_neg (by decide), if_neg (by decide), if_neg (by decide), if_pos (by decide)]; rw [c_coveredNow hs hw, bd1_s, bitc_n hc], by rw [if_neg (by decide), if_neg (by decide), if_neg (by decide), if_neg (by decide), if_neg (by decide), if_neg (by decide), if_neg (by decide), if_neg (by decide), if_pos (by decide)]; rw [e5, bd1_s, ones_n (by omega), bd1_s]⟩
  · exact ⟨_, by rw [if_neg (by decide), if_neg (by decide), if_neg (by decide), if_neg (by decide), if_neg (by decide), if_neg (by decide), if_neg (by decide), if_neg (by decide), if_neg (by decide), if_pos (by decide)]; rw [show fX3_amountOf size kinds 1 = _ from c_ko hs hw (w := 1) (by decide), bd1_s], by rw [if_neg (by decide), if_neg (by decide), if_neg (by decide), if_neg (by decide), if_neg (by decide), if_neg (by decide), if_neg (by decide), if_neg (by decide), if_neg (by decide), if_pos (by decide)]; rw [show fX5_kindsThere now 1 = _ from m_ko ha hw (w := 1) (by decide), bd1_s]⟩
  · exact ⟨_, by rw [if_neg (by decide), if_neg (by decide), if_neg (by decide), if_neg (by decide), if_neg (by decide), if_neg (by decide), if_neg (by decide), if_neg (by decide), if_neg (by decide), if_neg (by decide), if_pos (by decide)]; rw [show fX3_amountOf size kinds 2 = _ from c_ko hs hw (w := 2) (by decide), bd1_s], by rw [if_neg (by decide), if_neg (by decide), if_neg (by decide), if_neg (by decide), if_neg (by decide), if_neg (by decide), if_neg (by decide), if_neg (by decide), if_neg (by decide), if_neg (by decide), if_pos (by decide)]; rw [show fX5_kindsThere now 2 = _ from m_ko ha hw (w := 2) (by decide), bd1_s]⟩
  · exact ⟨_, by rw [if_neg (by decide), if_neg (by decide), if_neg (by decide), if_neg (by decide), if_neg (by decide), if_neg (by decide), if_neg (by decide), if_neg (by decide), if_neg (by decide), if_neg (by decide), if_neg (by decide), if_pos (by decide)]; rw [s_amount (by decide), bd1_s], by rw [if_neg (by decide), if_neg (by decide), if_neg (by decide), if_neg (by decide), if_neg (by decide), if_neg (by decide), if_neg (by decide), if_neg (by decide), if_neg (by decide), if_neg (by decide), if_neg (by decide), if_pos (by decide)]; rw [m_there (by decide) (hR.miss (by decide)), bd1_s]⟩
  · exact ⟨_, by rw [if_neg (by decide), if_neg (by decide), if_neg (by decide), if_neg (by decide), if_neg (by decide), if_neg (by decide), if_neg (by decide), if_neg (by decide), if_neg (by decide), if_neg (by decide), if_neg (by decide), if_neg (by decide), if_pos (by decide)]; rw [s_amount (by decide), bd1_s], by rw [if_neg (by decide), if_neg (by decide), if_neg (by decide), if_neg (by decide), if_neg (by decide), if_neg (by decide), if_neg (by decide), if_neg (by decide), if_neg (by decide), if_neg (by decide), if_neg (by decide), if_neg (by decide), if_pos (by decide)]; rw [m_there (by decide) (hT.miss (by decide)), bd1_s]⟩
  · have e3 : nI (thN dsz 4) - 1 = nI (thN dsz 3) := by
      rw [show thN dsz 4 = thN dsz 3 + (if dsz 3 = -1 then 0 else 1) from rfl, if_neg (by rw [hd]; exact (m1_ne (by omega)).1)]
      exact nI_pred _
    exact ⟨_, by rw [if_neg (by decide), if_neg (by decide), if_neg (by decide), if_neg (by decide), if_neg (by decide), if_neg (by decide), if_neg (by decide), if_neg (by decide), if_neg (by decide), if_neg (by decide), if_neg (by decide), if_neg (by decide), if_neg (by decide), if_pos (by decide)]; rw [s_amount (by decide), bd1_s, e3], by rw [if_neg (by decide), if_neg (by decide), if_neg (by decide), if_neg (by decide), if_neg (by decide), if_neg (by decide), if_neg (by decide), if_neg (by decide), if_neg (by decide), if_neg (by decide), if_neg (by decide), if_neg (by decide), if_neg (by decide), if_pos (by decide)]; rw [m_there (by decide) hkd, bd1_s]⟩
theorem cn_no {x : Int32} (h : x < 0 ∨ nI 14 ≤ x) : fX4_count rs ts dsz size need lifted licked morning tally kinds covers x = some (-1) ∧ fX5_count deeds ms ns now kd x = some (-1) := by
  have hne : ∀ j, j < 14 → ¬ x = nI j := by
    intro j hj z
    subst z
    rcases h with h | h
    · exact nI_pos (by omega) h
    · exact nI_ge (a := j) (b := 14) hj (by decide) h
  have n0 : ¬ x = 0 := hne 0 (by decide)
  have n1 : ¬ x = 1 := hne 1 (by decide)
  have n2 : ¬ x = 2 := hne 2 (by decide)
  have n3 : ¬ x = 3 := hne 3 (by decide)
  have n4 : ¬ x = 4 := hne 4 (by decide)
  have n5 : ¬ x = 5 := hne 5 (by decide)
  have n6 : ¬ x = 6 := hne 6 (by decide)
  have n7 : ¬ x = 7 := hne 7 (by decide)
  have n8 : ¬ x = 8 := hne 8 (by decide)
  have n9 : ¬ x = 9 := hne 9 (by decide)
  have n10 : ¬ x = 10 := hne 10 (by decide)
  have n11 : ¬ x = 11 := hne 11 (by decide)
  have n12 : ¬ x = 12 := hne 12 (by decide)
  have n13 : ¬ x = 13 := hne 13 (by decide)
  unfold fX4_count fX5_count
  exact ⟨by rw [if_neg n0, if_neg n1, if_neg n2, if_neg n3, if_neg n4, if_neg n5, if_neg n6, if_neg n7, if_neg n8, if_neg n9, if_neg n10, if_neg n11, if_neg n12, if_neg n13], by rw [if_neg n0, if_neg n1, if_neg n2, if_neg n3, if_neg n4, if_neg n5, if_neg n6, if_neg n7, if_neg n8, if_neg n9, if_neg n10, if_neg n11, if_neg n12, if_neg n13]⟩
theorem dg_cn (hs : SL size need lifted licked morning tally kinds places lengths downs covers v n) (hw : WF v n B) (ha : AR now v) (hR : RW 6 40 (fun _ => True) rs ri ms mr) (hT : RW 4 60 byteR ts ti ns nr) (hk : k ≤ 40) (hd : dsz 3 = nI k) (he : deeds = nI k) (hkd : ∀ t, t < 3 → (dsz t = -1 ↔ kd t = -9)) : ∀ (m w fuel : Nat) (x : Int64), w + m = 14 → m < fuel → ∃ y, fX4_digest_L6 rs ts dsz size need lifted licked morning tally kinds covers fuel x (nI w) = some y ∧ fX5_digest_L6 deeds ms ns now kd fuel x (nI w) = some y := by
  intro m
  induction m with
  | zero =>
    intro w fuel x h1 h2
    obtain ⟨f, rfl⟩ : ∃ f, fuel = f + 1 := ⟨fuel - 1, by omega⟩
    have hk : w = 14 := by omega
    subst hk
    refine ⟨x, ?_, ?_⟩
    · show fX4_digest_B6 _ _ _ _ _ _ _ _ _ _ _ _ _ _ = _
      unfold fX4_digest_B6
      rw [if_pos (by decide)]
    · show fX5_digest_B6 _ _ _ _ _ _ _ _ = _
      unfold fX5_digest_B6
      rw [if_pos (by decide)]
  | succ m ih =>
    intro w fuel x h1 h2
    obtain ⟨f, rfl⟩ : ∃ f, fuel = f + 1 := ⟨fuel - 1, by omega⟩
    have c : ¬ (14 : Int32) ≤ nI w := nI_ge (a := w) (b := 14) (by omega) (by decide)
    obtain ⟨z, e4, e5⟩ := cn_eq hs hw ha hR hT hk hd he hkd (w := w) (by omega)
    obtain ⟨y, i4, i5⟩ := ih (w + 1) f (31 * x + Int32.toInt64 z) (by omega) (by omega)
    refine ⟨y, ?_, ?_⟩
    · show fX4_digest_B6 _ _ _ _ _ _ _ _ _ _ _ _ _ _ = _
      unfold fX4_digest_B6
      rw [if_neg c, e4, bd1_s, nI_1]
      exact i4
    · show fX5_digest_B6 _ _ _ _ _ _ _ _ = _
      unfold fX5_digest_B6
      rw [if_neg c, e5, bd1_s, nI_1]
      exact i5
theorem dg_tr (hs : SL size need lifted licked morning tally kinds places lengths downs covers v n) (hw : WF v n B) (ha : AR now v) {i : Nat} (hi : i < n) : ∀ (m w fuel : Nat) (x : Int64), w + m = 7 → m < fuel → ∃ y, fX4_digest_L47 size lifted kinds places lengths downs covers (nI i) fuel x (nI w) = some y ∧ fX5_digest_L46 now (nI i) fuel x (nI w) = some y := by
  intro m
  induction m with
  | zero =>
    intro w fuel x h1 h2
    obtain ⟨f, rfl⟩ : ∃ f, fuel = f + 1 := ⟨fuel - 1, by omega⟩
    have hk : w = 7 := by omega
    subst hk
    refine ⟨x, ?_, ?_⟩
    · show fX4_digest_B47 _ _ _ _ _ _ _ _ _ _ _ = _
      unfold fX4_digest_B47
      rw [if_pos (by decide)]
    · show fX5_digest_B46 _ _ _ _ _ = _
      unfold fX5_digest_B46
      rw [if_pos (by decide)]
  | succ m ih =>
    intro w fuel x h1 h2
    obtain ⟨f, rfl⟩ : ∃ f, fuel = f + 1 := ⟨fuel - 1, by omega⟩
    have c : ¬ (7 : Int32) ≤ nI w := nI_ge (a := w) (b := 7) (by omega) (by decide)
    obtain ⟨z, e4, e5⟩ := tr_eq hs hw ha hi (w := w) (by omega)
    obtain ⟨y, i4, i5⟩ := ih (w + 1) f (31 * x + Int32.toInt64 z) (by omega) (by omega)
    refine ⟨y, ?_, ?_⟩
    · show fX4_digest_B47 _ _ _ _ _ _ _ _ _ _ _ = _
      unfold fX4_digest_B47
      rw [if_neg c, e4, bd1_s, nI_1]
      exact i4
    · show fX5_digest_B46 _ _ _ _ _ = _
      unfold fX5_digest_B46
      rw [if_neg c, e5, bd1_s, nI_1]
      exact i5
theorem dg_pl (hs : SL size need lifted licked morning tally kinds places lengths downs covers v n) (hw : WF v n B) (ha : AR now v) : ∀ (m i fuel : Nat) (x : Int64), i + m = n → m < fuel → ∃ y, fX4_digest_L33 size lifted kinds places lengths downs covers fuel x (nI i) = some y ∧ fX5_digest_L33 now fuel x (nI i) = some y := by
  have hn6 := hw.2.1
  intro m
  induction m with
  | zero =>
    intro i fuel x h1 h2
    obtain ⟨f, rfl⟩ : ∃ f, fuel = f + 1 := ⟨fuel - 1, by omega⟩
    have hk : i = n := by omega
    subst hk
    refine ⟨x, ?_, ?_⟩
    · show fX4_digest_B33 _ _ _ _ _ _ _ _ _ _ = _
      unfold fX4_digest_B33
      rw [hs.1, if_pos (nI_le (Nat.le_refl i) (by omega))]
    · show fX5_digest_B33 _ _ _ _ = _
      unfold fX5_digest_B33
      rw [r35_1 ha, bd1_s, hw.1, if_pos (nI_le (Nat.le_refl i) (by omega))]
  | succ m ih =>
    intro i fuel x h1 h2
    obtain ⟨f, rfl⟩ : ∃ f, fuel = f + 1 := ⟨fuel - 1, by omega⟩
    have c0 : ¬ size ≤ nI i := by rw [hs.1]; exact nI_ge (by omega) (by omega)
    obtain ⟨z, e4, e5⟩ := dg_tr hs hw ha (i := i) (by omega) 7 0 FU x (by omega) (by decide)
    have e4 : fX4_digest_L47 size lifted kinds places lengths downs covers (nI i) FU x 0 = _ := e4
    have e5 : fX5_digest_L46 now (nI i) FU x 0 = _ := e5
    obtain ⟨y, i4, i5⟩ := ih (i + 1) f z (by omega) (by omega)
    refine ⟨y, ?_, ?_⟩
    · show fX4_digest_B33 _ _ _ _ _ _ _ _ _ _ = _
      unfold fX4_digest_B33
      rw [if_neg c0, e4, bd1_s, nI_1]
      exact i4
    · show fX5_digest_B33 _ _ _ _ = _
      unfold fX5_digest_B33
      rw [r35_1 ha, bd1_s, hw.1, if_neg (nI_ge (by omega) (by omega)), e5, bd1_s, nI_1]
      exact i5
theorem dg_kd (hkd : ∀ t, t < 3 → (dsz t = -1 ∧ kd t = -9) ∨ ∃ k, k ≤ 40 ∧ dsz t = nI k ∧ kd t = nI k) : ∀ (m i fuel : Nat) (x : Int64), i + m = 3 → m < fuel → ∃ y, fX4_digest_L86 dsz fuel x (nI i) = some y ∧ fX5_digest_L82 kd fuel x (nI i) = some y := by
  intro m
  induction m with
  | zero =>
    intro i fuel x h1 h2
    obtain ⟨f, rfl⟩ : ∃ f, fuel = f + 1 := ⟨fuel - 1, by omega⟩
    have hk : i = 3 := by omega
    subst hk
    refine ⟨x, ?_, ?_⟩
    · show fX4_digest_B86 _ _ _ _ = _
      unfold fX4_digest_B86
      rw [if_pos (by decide)]
    · show fX5_digest_B82 _ _ _ _ = _
      unfold fX5_digest_B82
      rw [if_pos (by decide)]
  | succ m ih =>
    intro i fuel x h1 h2
    obtain ⟨f, rfl⟩ : ∃ f, fuel = f + 1 := ⟨fuel - 1, by omega⟩
    have c : ¬ (3 : Int32) ≤ nI i := nI_ge (a := i) (b := 3) (by omega) (by decide)
    have es : fX2_sizeOf 4 dsz (nI i) = some (dsz i) := s_sizeOf (by decide) (by omega)
    have ek : ald 3 kd (nI i) = some (kd i) := ald_nI (by omega) (by decide)
    obtain ⟨y, i4, i5⟩ := ih (i + 1) f (31 * x + Int32.toInt64 (dsz i)) (by omega) (by omega)
    refine ⟨y, ?_, ?_⟩
    · show fX4_digest_B86 _ _ _ _ = _
      unfold fX4_digest_B86
      rw [if_neg c, es, bd1_s, nI_1]
      exact i4
    · show fX5_digest_B82 _ _ _ _ = _
      unfold fX5_digest_B82 fX5_digest_j113
      rw [if_neg c, ek, bd1_s, nI_1]
      rcases hkd i (by omega) with ⟨s1, s2⟩ | ⟨k, hk, s1, s2⟩
      · rw [s1] at i5
        rw [if_pos s2]
        exact i5
      · rw [s1] at i5
        rw [s2, if_neg (m1_ne (by omega)).2, bd1_s]
        exact i5
end
section
variable {m N w : Nat} {ok : Int32 → Prop} {sizes items rsz rit : Nat → Int32}
theorem dg_in (hm : m < 1000) (hN : N < 2 ^ 31) (hw : w * m ≤ N) (hw1 : w < 1000) {r k : Nat} (hr : r < m) (hk : k ≤ w) (s1 : sizes r = nI k) (s2 : rsz r = nI k) (hi : ∀ i, i < k → items (w * r + i) = rit (w * r + i)) : ∀ (q j fuel : Nat) (x : Int64), j + q = k → q < fuel → ∃ y, fX2_addTo_L33 N m (nI w) items sizes (nI r) fuel x (nI j) = some y ∧ fX5_summed_L43 m N rsz rit (nI w) (nI r) fuel x (nI j) = some y := by
  have hlt : w * r + w ≤ w * m := by rw [← Nat.mul_succ]; exact Nat.mul_le_mul_left w hr
  intro q
  induction q with
  | zero =>
    intro j fuel x h1 h2
    obtain ⟨f, rfl⟩ : ∃ f, fuel = f + 1 := ⟨fuel - 1, by omega⟩
    have hj : j = k := by omega
    subst hj
    refine ⟨x, ?_, ?_⟩
    · show fX2_addTo_B33 _ _ _ _ _ _ _ _ _ = _
      unfold fX2_addTo_B33
      rw [ald_nI hr (by omega), bd1_s, s1, if_pos (nI_le (Nat.le_refl j) (by omega))]
    · show fX5_summed_B43 _ _ _ _ _ _ _ _ _ = _
      unfold fX5_summed_B43
      rw [ald_nI hr (by omega), bd1_s, s2, if_pos (nI_le (Nat.le_refl j) (by omega))]
  | succ q ih =>
    intro j fuel x h1 h2
    obtain ⟨f, rfl⟩ : ∃ f, fuel = f + 1 := ⟨fuel - 1, by omega⟩
    obtain ⟨y, i4, i5⟩ := ih (j + 1) f (31 * x + Int32.toInt64 (rit (w * r + j))) (by omega) (by omega)
    refine ⟨y, ?_, ?_⟩
    · show fX2_addTo_B33 _ _ _ _ _ _ _ _ _ = _
      unfold fX2_addTo_B33
      rw [ald_nI hr (by omega), bd1_s, s1, if_neg (nI_ge (by omega) (by omega)), s_get (by omega) hN hw hr hk s1 (by omega) (by omega), bd1_s, hi j (by omega), nI_1]
      exact i4
    · show fX5_summed_B43 _ _ _ _ _ _ _ _ _ = _
      unfold fX5_summed_B43
      rw [ald_nI hr (by omega), bd1_s, s2, if_neg (nI_ge (by omega) (by omega)), nI_mul, nI_add, ald_nI (by omega) hN, bd1_s, nI_1]
      exact i5
theorem le_m1 : (-1 : Int32) ≤ 0 ∧ (-9 : Int32) ≤ 0 ∧ ¬ (-1 : Int32) = -9 := by decide
theorem dg_out (hm : m < 1000) (hN : N < 2 ^ 31) (hw : w * m ≤ N) (hw1 : w < 1000) (hR : RW m w ok sizes items rsz rit) : ∀ (q r fuel : Nat) (x : Int64), r + q = m → q < fuel → ∃ y, fX2_addTo_L5 N m (nI w) items sizes fuel x (nI r) = some y ∧ fX5_summed_L6 m N rsz rit (nI w) fuel x (nI r) = some y := by
  intro q
  induction q with
  | zero =>
    intro r fuel x h1 h2
    obtain ⟨f, rfl⟩ : ∃ f, fuel = f + 1 := ⟨fuel - 1, by omega⟩
    have hj : r = m := by omega
    subst hj
    refine ⟨x, ?_, ?_⟩
    · show fX2_addTo_B5 _ _ _ _ _ _ _ _ = _
      unfold fX2_addTo_B5
      exact if_pos (nI_le (Nat.le_refl r) (by omega))
    · show fX5_summed_B6 _ _ _ _ _ _ _ _ = _
      unfold fX5_summed_B6
      exact if_pos (nI_le (Nat.le_refl r) (by omega))
  | succ q ih =>
    intro r fuel x h1 h2
    obtain ⟨f, rfl⟩ : ∃ f, fuel = f + 1 := ⟨fuel - 1, by omega⟩
    have hr : r < m := by omega
    have c2 : ¬ Int32.ofNat m ≤ nI r := nI_ge (by omega) (by omega)
    have key : ∃ z, (bd1 (ald m sizes (nI r)) fun v26 => fX2_addTo_L33 N m (nI w) items sizes (nI r) FU ((31 * x) + (Int32.toInt64 v26)) 0) = some z ∧ ((rsz r = -9 ∧ fX5_summed_L43 m N rsz rit (nI w) (nI r) FU ((31 * x) + (Int32.toInt64 (-1))) 0 = some z) ∨ (¬ rsz r = -9 ∧ fX5_summed_L43 m N rsz rit (nI w) (nI r) FU ((31 * x) + (Int32.toInt64 (rsz r))) 0 = some z)) := by
      rw [ald_nI hr (by omega), bd1_s]
      rcases hR r hr with ⟨s1, s2⟩ | ⟨k, hk, s1, s2, hi⟩
      · refine ⟨31 * x + Int32.toInt64 (-1), ?_, Or.inl ⟨s2, ?_⟩⟩
        · have h : ∀ f y, fX2_addTo_L33 N m (nI w) items sizes (nI r) (f + 1) y 0 = some y := by
            intro f y
            show fX2_addTo_B33 _ _ _ _ _ _ _ _ _ = _
            unfold fX2_addTo_B33
            rw [ald_nI hr (by omega), bd1_s, s1, if_pos le_m1.1]
          rw [s1]
          exact h 99999 _
        · have h : ∀ f y, fX5_summed_L43 m N rsz rit (nI w) (nI r) (f + 1) y 0 = some y := by
            intro f y
            show fX5_summed_B43 _ _ _ _ _ _ _ _ _ = _
            unfold fX5_summed_B43
            rw [ald_nI hr (by omega), bd1_s, s2, if_pos le_m1.2.1]
          exact h 99999 _
      · obtain ⟨y, i4, i5⟩ := dg_in hm hN hw hw1 hr hk s1 s2 (fun i hik => (hi i hik).1) k 0 FU (31 * x + Int32.toInt64 (nI k)) (by omega) (Nat.lt_of_le_of_lt hk (Nat.lt_trans hw1 (by decide)))
        refine ⟨y, ?_, Or.inr ⟨by rw [s2]; exact (m1_ne (by omega)).2, ?_⟩⟩
        · rw [s1]; exact i4
        · rw [s2]; exact i5
    obtain ⟨z, k4, k5⟩ := key
    rw [ald_nI hr (by omega), bd1_s] at k4
    obtain ⟨y, i4, i5⟩ := ih (r + 1) f z (by omega) (by omega)
    refine ⟨y, ?_, ?_⟩
    · show fX2_addTo_B5 _ _ _ _ _ _ _ _ = _
      unfold fX2_addTo_B5
      rw [if_neg c2, ald_nI hr (by omega), bd1_s, k4, bd1_s, nI_1]
      exact i4
    · show fX5_summed_B6 _ _ _ _ _ _ _ _ = _
      unfold fX5_summed_B6 fX5_summed_j36
      rw [if_neg c2, ald_nI hr (by omega), bd1_s]
      rcases k5 with ⟨s2, k5⟩ | ⟨s2, k5⟩
      · rw [if_pos s2, k5, bd1_s, nI_1]
        exact i5
      · rw [if_neg s2, bd1_s, k5, bd1_s, nI_1]
        exact i5
theorem dg_all (hm : m < 1000) (hN : N < 2 ^ 31) (hw : w * m ≤ N) (hw1 : w < 1000) (hR : RW m w ok sizes items rsz rit) (x : Int64) : ∃ y, fX2_addTo N m (nI w) items sizes x = some y ∧ fX5_summed m N rsz rit x (nI w) = some y := by
  obtain ⟨y, e4, e5⟩ := dg_out hm hN hw hw1 hR m 0 FU x (by omega) (Nat.lt_trans hm (by decide))
  have e4 : fX2_addTo_L5 N m (nI w) items sizes FU x 0 = _ := e4
  have e5 : fX5_summed_L6 m N rsz rit (nI w) FU x 0 = _ := e5
  exact ⟨y, by unfold fX2_addTo; rw [e4, bd1_s], by unfold fX5_summed; rw [e5, bd1_s]⟩
end
theorem RelD.kd {c : CS} {d : MS} {n : Nat} {V q : Nat → Nat} {k : Nat} (h : RelD c d n V q k) : ∀ t, t < 3 → (cs_d_sizes c t = -1 ∧ ms_keptDeeds d t = -9) ∨ ∃ k, k ≤ 40 ∧ cs_d_sizes c t = nI k ∧ ms_keptDeeds d t = nI k := by
  intro t ht
  rcases h.2.2.2.2.2.2.2.2.2 t ht with z | ⟨q', k', -, z1, z2, z3, -⟩
  · exact Or.inl z
  · exact Or.inr ⟨k', z1, z2, z3⟩
theorem RelD.km {c : CS} {d : MS} {n : Nat} {V q : Nat → Nat} {k : Nat} (h : RelD c d n V q k) : ∀ t, t < 3 → (cs_d_sizes c t = -1 ↔ ms_keptDeeds d t = -9) := by
  intro t ht
  rcases h.kd t ht with ⟨s1, s2⟩ | ⟨k, hk, s1, s2⟩
  · exact ⟨fun _ => s2, fun _ => s1⟩
  · rw [s1, s2]
    exact ⟨fun z => absurd z (m1_ne (by omega)).1, fun z => absurd z (m1_ne (by omega)).2⟩
theorem step_count : Step_count Rel := by
  intro c d h x1
  obtain ⟨hA, hB, hC, n, V, q, k, hD⟩ := h
  obtain ⟨hw, hs, ha, hk, hd, he, -⟩ := hD.get
  rcases spl x1 (k := 14) (by decide) with ⟨w, hwc, rfl⟩ | hx
  · obtain ⟨x, e4, e5⟩ := cn_eq hs hw ha hB hC hk hd he hD.km hwc
    exact go2 (map_some e4) (map_some e5) rfl ⟨hA, hB, hC, n, V, q, k, hD⟩
  · obtain ⟨e4, e5⟩ := cn_no (rs := cs_r_sizes c) (ts := cs_t_sizes c) (dsz := cs_d_sizes c) (size := cs_sl_size c) (need := cs_sl_need c) (lifted := cs_sl_lifted c) (licked := cs_sl_licked c) (morning := cs_sl_morning c) (tally := cs_sl_tally c) (kinds := cs_sl_kinds c) (covers := cs_sl_covers c) (deeds := ms_deeds d) (ms := ms_rowSize d) (ns := ms_textSize d) (now := ms_now d) (kd := ms_keptDeeds d) hx
    exact go2 (map_some e4) (map_some e5) rfl ⟨hA, hB, hC, n, V, q, k, hD⟩
theorem step_digest : Step_digest Rel := by
  intro c d h
  obtain ⟨hA, hB, hC, n, V, q, k, hD⟩ := h
  obtain ⟨hw, hs, ha, hk, hd, he, hn6⟩ := hD.get
  obtain ⟨y1, p4, p5⟩ := dg_cn hs hw ha hB hC hk hd he hD.km 14 0 FU 17 (by omega) (by decide)
  obtain ⟨y2, q4, q5⟩ := dg_pl hs hw ha n 0 FU y1 (by omega) (Nat.lt_of_le_of_lt hn6 (by decide))
  obtain ⟨y3, r4, r5⟩ := dg_kd hD.kd 3 0 FU y2 (by omega) (by decide)
  obtain ⟨y4, s4, s5⟩ := dg_all (N := 240) (m := 6) (w := 40) (by decide) (by decide) (by decide) (by decide) hB y3
  obtain ⟨y5, t4, t5⟩ := dg_all (N := 240) (m := 4) (w := 60) (by decide) (by decide) (by decide) (by decide) hC y4
  have p4 : fX4_digest_L6 (cs_r_sizes c) (cs_t_sizes c) (cs_d_sizes c) (cs_sl_size c) (cs_sl_need c) (cs_sl_lifted c) (cs_sl_licked c) (cs_sl_morning c) (cs_sl_tally c) (cs_sl_kinds c) (cs_sl_covers c) FU 17 0 = _ := p4
  have p5 : fX5_digest_L6 (ms_deeds d) (ms_rowSize d) (ms_textSize d) (ms_now d) (ms_keptDeeds d) FU 17 0 = _ := p5
  have q4 : fX4_digest_L33 (cs_sl_size c) (cs_sl_lifted c) (cs_sl_kinds c) (cs_sl_places c) (cs_sl_lengths c) (cs_sl_downs c) (cs_sl_covers c) FU y1 0 = _ := q4
  have q5 : fX5_digest_L33 (ms_now d) FU y1 0 = _ := q5
  have r4 : fX4_digest_L86 (cs_d_sizes c) FU y2 0 = _ := r4
  have r5 : fX5_digest_L82 (ms_keptDeeds d) FU y2 0 = _ := r5
  have s4 : fX2_addTo 240 6 40 (cs_r_items c) (cs_r_sizes c) y3 = _ := s4
  have s5 : fX5_summed 6 240 (ms_rowSize d) (ms_rows d) y3 40 = _ := s5
  have t4 : fX2_addTo 240 4 60 (cs_t_items c) (cs_t_sizes c) y4 = _ := t4
  have t5 : fX5_summed 4 240 (ms_textSize d) (ms_texts d) y4 60 = _ := t5
  exact go2 (map_some (by unfold fX4_digest; rw [p4, bd1_s, q4, bd1_s, r4, bd1_s, s4, bd1_s, t4, bd1_s])) (map_some (by unfold fX5_digest; rw [p5, bd1_s, q5, bd1_s, r5, bd1_s, s5, bd1_s, t5, bd1_s])) rfl ⟨hA, hB, hC, n, V, q, k, hD⟩
