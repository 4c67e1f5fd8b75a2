/-! ===== pure: places, kinds ===== -/
def fitN (u : Nat → Nat) (f : Nat → Int32) : Nat → Nat
  | 0 => 1
  | k + 1 => if fitN u f k = 1 ∧ nI (liV (paN u (k + 1))) = f k then 1 else 0
theorem fitN_01 (u : Nat → Nat) (f : Nat → Int32) : ∀ k, fitN u f k = 0 ∨ fitN u f k = 1
  | 0 => Or.inr rfl
  | k + 1 => by unfold fitN; split <;> simp
theorem fitN_0 {u : Nat → Nat} {f : Nat → Int32} {j : Nat} (h : fitN u f j = 0) : ∀ m, fitN u f (j + m) = 0
  | 0 => h
  | m + 1 => by rw [show j + (m + 1) = (j + m) + 1 by omega, fitN, if_neg (by rw [fitN_0 h m]; simp)]
theorem fitN_cong {u : Nat → Nat} {f g : Nat → Int32} : ∀ {k : Nat}, (∀ j, j < k → f j = g j) → fitN u f k = fitN u g k
  | 0, _ => rfl
  | k + 1, h => by rw [fitN, fitN, fitN_cong (fun j hj => h j (by omega)), h k (by omega)]
def orB (b : Nat → Nat) (n : Nat) : Nat := orN (fun p => if b p = 1 then 2 ^ p else 0) n
theorem orB_1 {b : Nat → Nat} {k : Nat} (h : b k = 1) : orB b (k + 1) = orB b k ||| 2 ^ k := by unfold orB; rw [orN, if_pos h]
theorem orB_0 {b : Nat → Nat} {k : Nat} (h : ¬ b k = 1) : orB b (k + 1) = orB b k := by unfold orB; rw [orN, if_neg h, Nat.or_zero]
theorem orB_tb (b : Nat → Nat) (j : Nat) : ∀ n, (orB b n).testBit j = (decide (j < n) && decide (b j = 1))
  | 0 => by simp [orB, orN]
  | n + 1 => by
    by_cases h : b n = 1
    · rw [orB_1 h, Nat.testBit_or, orB_tb b j n, Nat.testBit_two_pow]
      by_cases e : n = j
      · subst e; simp [h]
      · simp only [e, decide_false, Bool.or_false]
        congr 1
        simp only [decide_eq_decide]
        omega
    · rw [orB_0 h, orB_tb b j n]
      by_cases e : n = j
      · subst e; simp [h]
      · congr 1
        simp only [decide_eq_decide]
        omega
theorem orB_bit (b : Nat → Nat) {j n : Nat} (h : j < n) : orB b n / 2 ^ j % 2 = if b j = 1 then 1 else 0 := by
  have := orB_tb b j n
  rw [tb_eq] at this
  by_cases c : b j = 1
  · rw [if_pos c]
    simpa [c, h] using this
  · rw [if_neg c]
    have h2 : ¬ orB b n / 2 ^ j % 2 = 1 := by simpa [c, h] using this
    omega
theorem orB_lt (b : Nat → Nat) (n : Nat) : orB b n < 2 ^ n := orN_lt (fun j hj => by
  split
  · exact Nat.pow_lt_pow_right (by decide) hj
  · exact Nat.two_pow_pos n)
theorem areL (x : Int32) : fX4_areLines x = fX5_in0 x 0 255 := rfl
theorem al_01 (x : Int32) : fX5_in0 x 0 255 = some 0 ∨ fX5_in0 x 0 255 = some 1 := by
  rw [in0_eq]
  split
  · exact Or.inl rfl
  · split
    · exact Or.inl rfl
    · exact Or.inr rfl
section
variable {items sizes rsz rit : Nat → Int32}
theorem flaw_L {r k : Nat} (hr : r < 6) (hk : k ≤ 40) (s1 : sizes r = nI k) (s2 : rsz r = nI k) (he : ∀ i, i < k → items (40 * r + i) = rit (40 * r + i)) : ∀ (m j fuel : Nat), j + m = k → m < fuel → (fX4_flawOfSeen_L37 items sizes (nI r) (nI k) fuel (nI j) = some (.inl 3) ∧ fX5_wrongIn_L32 rsz rit (nI r) fuel (nI j) = some (.inl 3)) ∨ (fX4_flawOfSeen_L37 items sizes (nI r) (nI k) fuel (nI j) = some (.inr ()) ∧ fX5_wrongIn_L32 rsz rit (nI r) fuel (nI j) = some (.inr ())) := by
  intro m
  induction m with
  | zero =>
    intro j fuel h1 h2
    obtain ⟨f, rfl⟩ : ∃ f, fuel = f + 1 := ⟨fuel - 1, by omega⟩
    have hj : j = k := by omega
    subst hj
    refine Or.inr ⟨?_, ?_⟩
    · show fX4_flawOfSeen_B37 _ _ _ _ _ _ = _
      unfold fX4_flawOfSeen_B37
      rw [if_pos (nI_le (Nat.le_refl j) (by omega))]
    · show fX5_wrongIn_B32 _ _ _ _ _ = _
      unfold fX5_wrongIn_B32
      rw [a6 hr, s2, bd1_s, if_pos (nI_le (Nat.le_refl j) (by omega))]
  | succ m ih =>
    intro j fuel h1 h2
    obtain ⟨f, rfl⟩ : ∃ f, fuel = f + 1 := ⟨fuel - 1, by omega⟩
    have u4 : fX4_flawOfSeen_L37 items sizes (nI r) (nI k) (f + 1) (nI j) = fX4_flawOfSeen_B37 items sizes (nI r) (nI k) (fX4_flawOfSeen_L37 items sizes (nI r) (nI k) f) (nI j) := rfl
    have u5 : fX5_wrongIn_L32 rsz rit (nI r) (f + 1) (nI j) = fX5_wrongIn_B32 rsz rit (nI r) (fX5_wrongIn_L32 rsz rit (nI r) f) (nI j) := rfl
    have eg : fX2_get 240 6 40 items sizes (nI r) (nI j) = some (items (40 * r + j)) := s_get (N := 240) (m := 6) (w := 40) (by decide) (by decide) (by decide) hr hk s1 (by omega) (by omega)
    rw [u4, u5]
    unfold fX4_flawOfSeen_B37 fX5_wrongIn_B32
    rw [if_neg (nI_ge (by omega) (by omega)), eg, bd1_s, areL, a6 hr, s2, bd1_s, if_neg (nI_ge (by omega) (by omega)), rix, ald_nI (by omega) (by decide), bd1_s, ← he j (by omega)]
    rcases al_01 (items (40 * r + j)) with c | c
    · rw [c, bd1_s, bd1_s, if_pos rfl, if_pos rfl]
      exact Or.inl ⟨rfl, rfl⟩
    · rw [c, bd1_s, bd1_s, if_neg one_ne, if_neg one_ne, nI_1]
      exact ih (j + 1) f (by omega) (by omega)
theorem flaw_eq (hR : RW 6 40 (fun _ => True) sizes items rsz rit) {r : Nat} (hr : r < 6) : (∃ f, 1 ≤ f ∧ f ≤ 5 ∧ fX4_flawOfSeen items sizes (nI r) = some (nI f) ∧ fX5_wrongIn rsz rit (nI r) = some (nI f)) ∨ ∃ k, 1 ≤ k ∧ k ≤ 10 ∧ sizes r = nI k ∧ rsz r = nI k ∧ (∀ i, i < k → items (40 * r + i) = rit (40 * r + i)) ∧ fX4_flawOfSeen items sizes (nI r) = some 0 ∧ fX5_wrongIn rsz rit (nI r) = some 0 := by
  unfold fX4_flawOfSeen fX5_wrongIn
  rw [s_sizeOf (by decide) hr, bd1_s, a6 hr, bd1_s]
  rcases hR r hr with ⟨s1, s2⟩ | ⟨k, hk, s1, s2, hi⟩
  · refine Or.inl ⟨1, by decide, by decide, ?_, ?_⟩
    · rw [s_miss1 (by decide) hr s1, bd1_s, if_neg one_ne]; rfl
    · rw [if_pos s2]; rfl
  have em : fX2_isMissing 6 sizes (nI r) = some 0 := s_miss0 (by decide) hr (by omega) s1
  rw [em, bd1_s, if_pos rfl, s1, s2, if_neg (m1_ne (by omega)).2, bd1_s, in0_eq]
  by_cases c1 : k < 1
  · have c : nI k < 1 := nI_lt (b := 1) c1 (by decide)
    refine Or.inl ⟨5, by decide, by decide, ?_, ?_⟩
    · rw [if_pos c]; rfl
    · rw [if_pos c, bd1_s, if_pos rfl]; rfl
  have c : ¬ nI k < 1 := nI_nlt (b := 1) (by omega) (by omega)
  rw [if_neg c, if_neg c]
  by_cases c2 : k ≤ 10
  · have d1 : nI k ≤ 10 := nI_le (b := 10) c2 (by decide)
    have d2 : ¬ 10 < nI k := nI_nlt (a := 10) (b := k) c2 (by decide)
    rw [if_pos d1, if_neg d2, bd1_s, if_neg one_ne]
    rcases flaw_L hr hk s1 s2 (fun i hi' => (hi i hi').1) k 0 FU (by omega) (Nat.lt_of_le_of_lt hk (by decide)) with ⟨q4, q5⟩ | ⟨q4, q5⟩
    · have q4 : fX4_flawOfSeen_L37 items sizes (nI r) (nI k) FU 0 = _ := q4
      have q5 : fX5_wrongIn_L32 rsz rit (nI r) FU 0 = _ := q5
      rw [q4, q5]
      exact Or.inl ⟨3, by decide, by decide, rfl, rfl⟩
    · have q4 : fX4_flawOfSeen_L37 items sizes (nI r) (nI k) FU 0 = _ := q4
      have q5 : fX5_wrongIn_L32 rsz rit (nI r) FU 0 = _ := q5
      rw [q4, q5]
      exact Or.inr ⟨k, by omega, c2, rfl, rfl, fun i hi' => (hi i hi').1, rfl, rfl⟩
  · have d1 : ¬ nI k ≤ 10 := nI_ge (a := 10) (b := k) (by omega) (by omega)
    have d2 : 10 < nI k := nI_lt (a := 10) (b := k) (by omega) (by omega)
    rw [if_neg d1, if_pos d2, bd1_s, if_pos rfl]
    exact Or.inl ⟨5, by decide, by decide, rfl, rfl⟩
variable {size need lifted licked : Int32} {kinds lengths : Nat → Int32} {u : Nat → Nat} {n B : Nat}
theorem c_fits_L (hw : WF u n B) (hB : B < 2 ^ 19) (hn : 0 < n) {r k : Nat} (hr : r < 6) (hk : k ≤ 40) (s1 : sizes r = nI k) : ∀ (m j fuel : Nat) (morning tally : Int32) (places downs covers : Nat → Int32), SL size need lifted licked morning tally kinds places lengths downs covers (paN u j) n → fitN u (fun i => items (40 * r + i)) j = 1 → j + m = k → m < fuel →
    ∃ mo ta pl dn cv, (fitN u (fun i => items (40 * r + i)) k = 0 ∧ fX4_asideFits_L11 items sizes size need lifted licked kinds lengths (nI r) (nI k) fuel morning tally places downs covers (nI j) = some (.inl (0, mo, ta, pl, dn, cv))) ∨ (fitN u (fun i => items (40 * r + i)) k = 1 ∧ fX4_asideFits_L11 items sizes size need lifted licked kinds lengths (nI r) (nI k) fuel morning tally places downs covers (nI j) = some (.inr (mo, ta, pl, dn, cv))) := by
  intro m
  induction m with
  | zero =>
    intro j fuel morning tally places downs covers hs hf h1 h2
    obtain ⟨f, rfl⟩ : ∃ f, fuel = f + 1 := ⟨fuel - 1, by omega⟩
    have hj : j = k := by omega
    subst hj
    refine ⟨morning, tally, places, downs, covers, Or.inr ⟨hf, ?_⟩⟩
    show fX4_asideFits_B11 _ _ _ _ _ _ _ _ _ _ _ _ _ _ _ _ _ = _
    unfold fX4_asideFits_B11
    rw [if_pos (nI_le (Nat.le_refl j) (by omega))]
  | succ m ih =>
    intro j fuel morning tally places downs covers hs hf h1 h2
    obtain ⟨f, rfl⟩ : ∃ f, fuel = f + 1 := ⟨fuel - 1, by omega⟩
    have u4 : fX4_asideFits_L11 items sizes size need lifted licked kinds lengths (nI r) (nI k) (f + 1) morning tally places downs covers (nI j) = fX4_asideFits_B11 items sizes size need lifted licked kinds lengths (nI r) (nI k) (fX4_asideFits_L11 items sizes size need lifted licked kinds lengths (nI r) (nI k) f) morning tally places downs covers (nI j) := rfl
    have eg : fX2_get 240 6 40 items sizes (nI r) (nI j) = some (items (40 * r + j)) := s_get (N := 240) (m := 6) (w := 40) (by decide) (by decide) (by decide) hr hk s1 (by omega) (by omega)
    obtain ⟨mo, ta, pl, dn, cv, e, hS⟩ := c_fall hs (paN_WF hw j) (by omega) hn
    have el : fX3_linesNow size need lifted licked cv = some (nI (liV (paN u (j + 1)))) := c_linesNow hS (paN_WF hw (j + 1)) hn
    by_cases c : nI (liV (paN u (j + 1))) = items (40 * r + j)
    · have hf' : fitN u (fun i => items (40 * r + i)) (j + 1) = 1 := by rw [fitN, if_pos ⟨hf, c⟩]
      obtain ⟨mo', ta', pl', dn', cv', h'⟩ := ih (j + 1) f mo ta pl dn cv hS hf' (by omega) (by omega)
      refine ⟨mo', ta', pl', dn', cv', ?_⟩
      rw [u4]
      unfold fX4_asideFits_B11
      rw [if_neg (nI_ge (by omega) (by omega)), e, bd5_s, el, bd1_s, eg, bd1_s, if_pos c, nI_1]
      exact h'
    · have hf' : fitN u (fun i => items (40 * r + i)) (j + 1) = 0 := by rw [fitN, if_neg (fun z => c z.2)]
      have hk0 : fitN u (fun i => items (40 * r + i)) k = 0 := by
        have := fitN_0 hf' (k - (j + 1))
        rw [show j + 1 + (k - (j + 1)) = k by omega] at this
        exact this
      refine ⟨mo, ta, pl, dn, cv, Or.inl ⟨hk0, ?_⟩⟩
      rw [u4]
      unfold fX4_asideFits_B11
      rw [if_neg (nI_ge (by omega) (by omega)), e, bd5_s, el, bd1_s, eg, bd1_s, if_neg c]
theorem c_fits {morning tally : Int32} {places downs covers : Nat → Int32} (hs : SL size need lifted licked morning tally kinds places lengths downs covers u n) (hw : WF u n B) (hB : B < 2 ^ 19) (hn : 0 < n) {r k : Nat} (hr : r < 6) (hk : k ≤ 40) (s1 : sizes r = nI k) :
    ∃ mo ta pl dn cv, fX4_asideFits items sizes size need lifted licked morning tally kinds places lengths downs covers (nI r) = some (nI (fitN u (fun i => items (40 * r + i)) k), mo, ta, pl, dn, cv) := by
  obtain ⟨mo, ta, pl, dn, cv, h⟩ := c_fits_L (items := items) (sizes := sizes) hw hB hn hr hk s1 k 0 FU morning tally places downs covers hs rfl (by omega) (Nat.lt_of_le_of_lt hk (by decide))
  refine ⟨mo, ta, pl, dn, cv, ?_⟩
  unfold fX4_asideFits
  rw [s_sizeOf (by decide) hr, s1, bd1_s]
  rcases h with ⟨h0, e⟩ | ⟨h0, e⟩
  · have e : fX4_asideFits_L11 items sizes size need lifted licked kinds lengths (nI r) (nI k) FU morning tally places downs covers 0 = _ := e
    rw [e, st5_l, h0]; rfl
  · have e : fX4_asideFits_L11 items sizes size need lifted licked kinds lengths (nI r) (nI k) FU morning tally places downs covers 0 = _ := e
    rw [e, st5_r, h0]; rfl
theorem m_fits_L (hw : WF u n B) (hB : B < 2 ^ 19) {r k : Nat} (hr : r < 6) (hk : k ≤ 40) (s2 : rsz r = nI k) : ∀ (m j fuel : Nat) (t : Nat → Int32), AR t (paN u j) → j + m = k → m < fuel → ∃ t', fX5_isReadSo_L35 rsz rit (nI r) fuel t (nI (fitN u (fun i => rit (40 * r + i)) j)) (nI j) = some (t', nI (fitN u (fun i => rit (40 * r + i)) k)) ∧ AR t' (paN u k) := by
  intro m
  induction m with
  | zero =>
    intro j fuel t ha h1 h2
    obtain ⟨f, rfl⟩ : ∃ f, fuel = f + 1 := ⟨fuel - 1, by omega⟩
    have hj : j = k := by omega
    subst hj
    refine ⟨t, ?_, ha⟩
    show fX5_isReadSo_B35 _ _ _ _ _ _ _ = _
    unfold fX5_isReadSo_B35
    rw [a6 hr, s2, bd1_s, if_pos (nI_le (Nat.le_refl j) (by omega))]
  | succ m ih =>
    intro j fuel t ha h1 h2
    obtain ⟨f, rfl⟩ : ∃ f, fuel = f + 1 := ⟨fuel - 1, by omega⟩
    obtain ⟨t1, ht1, e1⟩ := m_passes ha (paN_WF hw j) (by omega)
    rw [liV_next (paN_WF hw j)] at e1
    have e1 : fX5_passes 35 t = some (nI (liV (paN u (j + 1))), t1) := e1
    obtain ⟨t2, e2, ht2⟩ := ih (j + 1) f t1 ht1 (by omega) (by omega)
    refine ⟨t2, ?_, ht2⟩
    show fX5_isReadSo_B35 _ _ _ _ _ _ _ = _
    unfold fX5_isReadSo_B35
    rw [a6 hr, s2, bd1_s, if_neg (nI_ge (by omega) (by omega)), e1, bd2_s]
    rcases fitN_01 u (fun i => rit (40 * r + i)) j with h0 | h0
    · have hf' : fitN u (fun i => rit (40 * r + i)) (j + 1) = 0 := by rw [fitN, if_neg (by rw [h0]; simp)]
      rw [h0, if_pos (by decide)]
      unfold fX5_isReadSo_j81 fX5_isReadSo_j82
      rw [nI_1]
      rw [hf'] at e2
      exact e2
    · rw [h0, if_neg (by decide), rix, ald_nI (by omega) (by decide), bd1_s]
      by_cases c : nI (liV (paN u (j + 1))) = rit (40 * r + j)
      · have hf' : fitN u (fun i => rit (40 * r + i)) (j + 1) = 1 := by rw [fitN, if_pos ⟨h0, c⟩]
        rw [if_pos c]
        unfold fX5_isReadSo_j82
        rw [nI_1]
        rw [hf'] at e2
        exact e2
      · have hf' : fitN u (fun i => rit (40 * r + i)) (j + 1) = 0 := by rw [fitN, if_neg (fun z => c z.2)]
        rw [if_neg c]
        unfold fX5_isReadSo_j81 fX5_isReadSo_j82
        rw [nI_1]
        rw [hf'] at e2
        exact e2
theorem m_fits {v : Nat → Nat} {now : Nat → Int32} (ha : AR now v) {i o a : Nat} (hi : i < 6) (ho : o < 5) (hw : WF (upN v (5 + o + 5 * i) a) n B) (hB : B < 2 ^ 19) {r k : Nat} (hr : r < 6) (hk : k ≤ 40) (s2 : rsz r = nI k) (tried : Nat → Int32) : ∃ t', fX5_isReadSo rsz rit now tried (nI r) (nI i) (nI o) (nI a) = some (nI (fitN (upN v (5 + o + 5 * i) a) (fun i => rit (40 * r + i)) k), t') ∧ AR t' (paN (upN v (5 + o + 5 * i) a) k) := by
  obtain ⟨t1, e1, h1⟩ := m_tried ha tried
  obtain ⟨t2, e2, h2⟩ := m_fits_L (rsz := rsz) (rit := rit) hw hB hr hk s2 k 0 FU (upd t1 (5 + o + 5 * i) (nI a)) (h1.up _ _) (by omega) (Nat.lt_of_le_of_lt hk (by decide))
  have e2 : fX5_isReadSo_L35 rsz rit (nI r) FU (upd t1 (5 + o + 5 * i) (nI a)) 1 0 = _ := e2
  have eix : (5 : Int32) + 5 * nI i + nI o = nI (5 + o + 5 * i) := by rw [ix0, nI_add]; congr 1; omega
  refine ⟨t2, ?_, h2⟩
  unfold fX5_isReadSo
  rw [e1, bd1_s, eix, s35 (by omega), bd1_s, e2, bd2_s]
  rcases fitN_01 (upN v (5 + o + 5 * i) a) (fun i => rit (40 * r + i)) k with h0 | h0
  · rw [h0, if_pos (by decide)]
  · rw [h0, if_pos (by decide)]
theorem c_setKind {morning tally : Int32} {places downs covers : Nat → Int32} (hs : SL size need lifted licked morning tally kinds places lengths downs covers u n) (hw : WF u n B) {i kd : Nat} (hi : i < n) (hkd : kd < 6) : ∃ kn cv, fX3_setKind size kinds places lengths downs covers (nI i) (nI kd) = some (kn, cv) ∧ SL size need lifted licked morning tally kn places lengths downs cv (upN u (5 + 5 * i) kd) n := by
  have hn6 := hw.2.1
  obtain ⟨-, b1, b2, b3, -⟩ := hw.2.2.2.2.2.2.2 i hi
  obtain ⟨s1, s2, s3, s4, s5, s6, s7⟩ := hs
  obtain ⟨k0, k1, k2, k3, k4⟩ := s7 i hi
  refine ⟨upd kinds i (nI kd), upd covers i (nI (covN kd (isV u i) (lnV u i) (dnV u i))), ?_, ?_⟩
  · unfold fX3_setKind
    rw [s1, c_has hn6 hi, bd1_s, if_neg one_ne, t6 (by omega), bd1_s, a6 (by omega), k1, bd1_s, a6 (by omega), k2, bd1_s, a6 (by omega), k3, bd1_s, (cov_ok hkd b1 b2 b3).1, bd1_s, t6 (by omega), bd1_s]
  · have e0 : ∀ x, x < 5 → upN u (5 + 5 * i) kd x = u x := fun x hx => upN_n _ _ (by omega)
    refine ⟨s1, by rw [e0 0 (by decide)]; exact s2, ?_, by rw [e0 4 (by decide)]; exact s4, by rw [e0 2 (by decide)]; exact s5, by rw [e0 3 (by decide)]; exact s6, ?_⟩
    · rw [s3]
      congr 1
      exact lfN_cong (fun j hj => by unfold lfV; rw [upN_n _ _ (by omega)])
    · intro j hj
      obtain ⟨r0, r1, r2, r3, r4⟩ := s7 j hj
      have f1 : isV (upN u (5 + 5 * i) kd) j = isV u j := by unfold isV; rw [upN_n _ _ (by omega)]
      have f2 : lnV (upN u (5 + 5 * i) kd) j = lnV u j := by unfold lnV; rw [upN_n _ _ (by omega)]
      have f3 : dnV (upN u (5 + 5 * i) kd) j = dnV u j := by unfold dnV; rw [upN_n _ _ (by omega)]
      by_cases e : j = i
      · subst e
        have f0 : kdV (upN u (5 + 5 * j) kd) j = kd := by unfold kdV; rw [upN_s]
        unfold cvV
        rw [f0, f1, f2, f3, upd_s, upd_s]
        exact ⟨rfl, r1, r2, r3, rfl⟩
      · have f0 : kdV (upN u (5 + 5 * i) kd) j = kdV u j := by unfold kdV; rw [upN_n _ _ (by omega)]
        unfold cvV
        rw [f0, f1, f2, f3, upd_n _ _ e, upd_n _ _ e]
        exact ⟨r0, r1, r2, r3, r4⟩
theorem c_settleP {morning tally : Int32} {places downs covers : Nat → Int32} (hs : SL size need lifted licked morning tally kinds places lengths downs covers u n) (hw : WF u n B) {i p : Nat} (hi : i < n) (hp : p < 16) : ∃ pl dn cv, fX3_settle size kinds places lengths downs covers (nI i) (nI p) (nI (dnV u i)) = some (pl, dn, cv) ∧ SL size need lifted licked morning tally kinds pl lengths dn cv (upN u (6 + 5 * i) p) n := by
  obtain ⟨-, -, -, b3, -⟩ := hw.2.2.2.2.2.2.2 i hi
  obtain ⟨pl, dn, cv, e, hS⟩ := c_settle hs hw hi hp b3
  refine ⟨pl, dn, cv, e, hS.cong (fun x hx => ?_)⟩
  by_cases c : x = 8 + 5 * i
  · subst c
    rw [upN_s, upN_n _ _ (by omega)]
    rfl
  · rw [upN_n _ _ c]
end
