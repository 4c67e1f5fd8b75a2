/-! ===== pure: a slice is read: fault, slice ===== -/
section
variable {t K : Nat} {sizes items rsz rit : Nat → Int32} {v : Nat → Nat} {k : Nat} {kinds places lengths downs covers draft : Nat → Int32}
theorem rp_eq (h : TX t K sizes items rsz rit) (hP : PS k v) (hk : k < 6) (hs : SL (nI k) (nI (v 0)) 0 0 0 0 kinds places lengths downs covers v k) (ha : AR draft v) {p : Nat} (hp : p < K) :
    (∃ v' kn' pl' ln' dn' cv' dr, PS (k + 1) v' ∧ SL (nI (k + 1)) (nI (v' 0)) 0 0 0 0 kn' pl' ln' dn' cv' v' (k + 1) ∧ v' 0 = v 0 ∧ AR dr v' ∧ p + 5 ≤ K ∧ fX0_readPeel 240 4 (nI t) (nI p) 60 items sizes (nI k) kinds places lengths downs covers = some (-9, nI (p + 5), nI (k + 1), kn', pl', ln', dn', cv') ∧ fX5_readsPeel (nI p) (-9) rsz rit draft (nI t) = some (nI (p + 5), -9, dr)) ∨
    (∃ f a b, f < 1000 ∧ fX0_readPeel 240 4 (nI t) (nI p) 60 items sizes (nI k) kinds places lengths downs covers = some (nI f, a, nI k, kinds, places, lengths, downs, covers) ∧ fX5_readsPeel (nI p) (-9) rsz rit draft (nI t) = some (nI b, nI f, draft)) := by
  have hK := h.2.1
  have e1v : ald 35 draft 1 = some (nI k) := by rw [r35_1 ha, hP.1.1]
  have c6 : ¬ (6 : Int32) ≤ nI k := nI_ge (b := 6) hk (by decide)
  have c6' : ¬ nI k = 6 := fun z => by have := (nI_eq (b := 6) (by omega) (by decide)).mp z; omega
  have m9 : (-9 : Int32) = -9 := rfl
  unfold fX0_readPeel fX5_readsPeel
  rw [c_sign1 h hp, m_look1 h hp, bd1_s, bd1_s]
  rcases kd_eq (rit (60 * t + p)) with ⟨kd, hkd, q4, q5⟩ | ⟨q4, q5⟩
  rotate_left
  · -- no letter
    rw [q4, q5, bd1_s, bd1_s, if_pos rfl, e1v, bd1_s, if_neg c6, bd1_s]
    unfold fX5_readsPeel_j32 fX5_readsPeel_j52 fX5_fails fX5_fails_j18
    rw [if_pos rfl, if_pos rfl, bd1_s, rp_w h (by omega) (by omega)]
    exact Or.inr ⟨p, _, _, by omega, rfl, rfl⟩
  have k9 : ¬ nI kd = -9 := (m1_ne (by omega)).2
  rw [q4, q5, bd1_s, bd1_s, if_neg k9, e1v, bd1_s, if_neg c6, bd1_s, nI_1]
  unfold fX5_readsPeel_j32
  rw [if_neg k9, e1v, bd1_s, if_neg c6', ix0]
  unfold fX5_readsPeel_j60
  rw [nI_1]
  unfold fX5_place
  -- tens
  rcases fg h (p := p + 1) (a := 0) (b := 9) (by omega) (by decide) (by decide) with ⟨d1, -, d1b, hp1, f4, f5⟩ | ⟨f4, f5⟩
  rotate_left
  · have f4 : fX0_figure 240 4 (nI t) (nI (p + 1)) 60 items sizes 0 9 = _ := f4
    have f5 : fX5_figure (nI (p + 1)) (-9) rsz rit (nI t) 0 9 = _ := f5
    have w9 : ¬ nI (p + 1) = -9 := (m1_ne (by omega)).2
    rw [f4, f5, bd2_s, if_pos rfl, bd3_s, fg_w h (by omega) (by omega), bd3_s, if_neg w9, bd3_s, fg_w h (by omega) (by omega), bd3_s, fg_w h (by omega) (by omega), bd3_s, if_neg w9]
    unfold fX0_readPeel_j55
    rw [if_pos rfl]
    exact Or.inr ⟨p + 1, _, _, by omega, rfl, rfl⟩
  have f4 : fX0_figure 240 4 (nI t) (nI (p + 1)) 60 items sizes 0 9 = _ := f4
  have f5 : fX5_figure (nI (p + 1)) (-9) rsz rit (nI t) 0 9 = _ := f5
  have d19 : ¬ nI d1 = -9 := (m1_ne (by omega)).2
  rw [f4, f5, bd2_s, if_neg d19, bd3_s]
  -- ones
  rcases fg h (p := p + 1 + 1) (a := 0) (b := 9) (by omega) (by decide) (by decide) with ⟨d2, -, d2b, hp2, f4, f5⟩ | ⟨f4, f5⟩
  rotate_left
  · have f4 : fX0_figure 240 4 (nI t) (nI (p + 1 + 1)) 60 items sizes 0 9 = _ := f4
    have f5 : fX5_figure (nI (p + 1 + 1)) (-9) rsz rit (nI t) 0 9 = _ := f5
    have w9 : ¬ nI (p + 1 + 1) = -9 := (m1_ne (by omega)).2
    rw [f4, f5, bd2_s, bd3_s, if_neg w9, bd3_s, fg_w h (by omega) (by omega), bd3_s, fg_w h (by omega) (by omega), bd3_s, if_neg w9]
    unfold fX0_readPeel_j55
    rw [if_pos rfl]
    exact Or.inr ⟨p + 1 + 1, _, _, by omega, rfl, rfl⟩
  have f4 : fX0_figure 240 4 (nI t) (nI (p + 1 + 1)) 60 items sizes 0 9 = _ := f4
  have f5 : fX5_figure (nI (p + 1 + 1)) (-9) rsz rit (nI t) 0 9 = _ := f5
  have d29 : ¬ nI d2 = -9 := (m1_ne (by omega)).2
  have e10 : (10 : Int32) * nI d1 + nI d2 = nI (d1 * 10 + d2) := by
    show nI 10 * nI d1 + nI d2 = _
    rw [nI_mul, nI_add, Nat.mul_comm]
  have e10' : nI d1 * 10 + nI d2 = nI (d1 * 10 + d2) := by
    show nI d1 * nI 10 + nI d2 = _
    rw [nI_mul, nI_add]
  rw [f4, f5, bd2_s, bd3_s, if_pos rfl, e10]
  unfold fX0_readPeel_j55
  rw [if_neg d29, e10']
  by_cases cp : d1 * 10 + d2 < 16
  rotate_left
  · have c1 : ¬ nI (d1 * 10 + d2) < 16 := nI_nlt (b := 16) (by omega) (by omega)
    have c2 : ¬ nI (d1 * 10 + d2) ≤ 15 := nI_ge (a := 15) (by omega) (by omega)
    have w9 : ¬ nI (p + 1) = -9 := (m1_ne (by omega)).2
    have e3 : nI (p + 1 + 1 + 1) - 2 = nI (p + 1) := by
      have := nI_sub (a := p + 1 + 1 + 1) (b := 2) (by omega)
      rw [show p + 1 + 1 + 1 - 2 = p + 1 by omega] at this
      exact this
    unfold fX5_fails fX5_fails_j18
    rw [if_neg c1, if_neg c2, if_pos rfl, bd1_s, bd3_s, fg_w h (by omega) (by omega), bd3_s, fg_w h (by omega) (by omega), bd3_s, if_neg w9, e3]
    exact Or.inr ⟨p + 1, _, _, by omega, rfl, rfl⟩
  have c1 : nI (d1 * 10 + d2) < 16 := nI_lt (b := 16) cp (by decide)
  have c2 : nI (d1 * 10 + d2) ≤ 15 := nI_le (b := 15) (by omega) (by decide)
  rw [if_pos c1, if_pos c2, bd3_s]
  -- the length
  rcases fg h (p := p + 1 + 1 + 1) (a := 1) (b := 4) (by omega) (by decide) (by decide) with ⟨d3, d3a, d3b, hp3, f4, f5⟩ | ⟨f4, f5⟩
  rotate_left
  · have f4 : fX0_figure 240 4 (nI t) (nI (p + 1 + 1 + 1)) 60 items sizes 1 4 = _ := f4
    have f5 : fX5_figure (nI (p + 1 + 1 + 1)) (-9) rsz rit (nI t) 1 4 = _ := f5
    have w9 : ¬ nI (p + 1 + 1 + 1) = -9 := (m1_ne (by omega)).2
    rw [f4, f5, bd2_s, if_pos rfl, bd3_s, fg_w h (by omega) (by omega), bd3_s, if_neg w9]
    unfold fX0_readPeel_j111
    rw [if_pos rfl]
    exact Or.inr ⟨p + 1 + 1 + 1, _, _, by omega, rfl, rfl⟩
  have f4 : fX0_figure 240 4 (nI t) (nI (p + 1 + 1 + 1)) 60 items sizes 1 4 = _ := f4
  have f5 : fX5_figure (nI (p + 1 + 1 + 1)) (-9) rsz rit (nI t) 1 4 = _ := f5
  have d39 : ¬ nI d3 = -9 := (m1_ne (by omega)).2
  rw [f4, f5, bd2_s, if_neg d39, bd3_s]
  -- which way it lies
  rcases fg h (p := p + 1 + 1 + 1 + 1) (a := 0) (b := 1) (by omega) (by decide) (by decide) with ⟨d4, -, d4b, hp4, f4, f5⟩ | ⟨f4, f5⟩
  rotate_left
  · have f4 : fX0_figure 240 4 (nI t) (nI (p + 1 + 1 + 1 + 1)) 60 items sizes 0 1 = _ := f4
    have f5 : fX5_figure (nI (p + 1 + 1 + 1 + 1)) (-9) rsz rit (nI t) 0 1 = _ := f5
    have w9 : ¬ nI (p + 1 + 1 + 1 + 1) = -9 := (m1_ne (by omega)).2
    rw [f4, f5, bd2_s, bd3_s, if_neg w9]
    unfold fX0_readPeel_j111
    rw [if_pos rfl]
    exact Or.inr ⟨p + 1 + 1 + 1 + 1, _, _, by omega, rfl, rfl⟩
  have f4 : fX0_figure 240 4 (nI t) (nI (p + 1 + 1 + 1 + 1)) 60 items sizes 0 1 = _ := f4
  have f5 : fX5_figure (nI (p + 1 + 1 + 1 + 1)) (-9) rsz rit (nI t) 0 1 = _ := f5
  have d49 : ¬ nI d4 = -9 := (m1_ne (by omega)).2
  obtain ⟨kn', pl', ln', dn', cv', ea, hS⟩ := c_add (kd := kd) (pl := d1 * 10 + d2) (ln := d3) (dn := d4) hP hk hkd cp ⟨d3a, d3b⟩ (by omega) hs
  have hu := (((ha.up (5 + 5 * k) kd).up (6 + 5 * k) (d1 * 10 + d2)).up (7 + 5 * k) d3).up (8 + 5 * k) d4
  have hu1 := hu.up 1 (k + 1)
  have er : ald 35 (upd (upd (upd (upd draft (5 + 5 * k) (nI kd)) (6 + 5 * k) (nI (d1 * 10 + d2))) (7 + 5 * k) (nI d3)) (8 + 5 * k) (nI d4)) 1 = some (nI k) := by
    rw [r35_1 hu, upN_n _ _ (by omega), upN_n _ _ (by omega), upN_n _ _ (by omega), upN_n _ _ (by omega), hP.1.1]
  have s1 : ∀ w x, ast 35 w 1 x = some (upd w 1 x) := fun w x => s35 (j := 1) (by decide)
  have i1 : nI (5 + 5 * k) + 1 = nI (6 + 5 * k) := by rw [nI_1]; congr 1; omega
  have i2 : nI (5 + 5 * k) + 2 = nI (7 + 5 * k) := by show nI _ + nI 2 = _; rw [nI_add]; congr 1; omega
  have i3 : nI (5 + 5 * k) + 3 = nI (8 + 5 * k) := by show nI _ + nI 3 = _; rw [nI_add]; congr 1; omega
  rw [f4, f5, bd2_s, bd3_s, if_pos rfl, i1, i2, i3, s35 (by omega), bd1_s, s35 (by omega), bd1_s, s35 (by omega), bd1_s, s35 (by omega), bd1_s, er, bd1_s, nI_1, s1, bd1_s]
  unfold fX0_readPeel_j111
  rw [if_neg d49, e10', ea, bd6_s]
  refine Or.inl ⟨adV v k kd (d1 * 10 + d2) d3 d4, kn', pl', ln', dn', cv', _, hP.add hk hkd cp ⟨d3a, d3b⟩ (by omega), hS, ?_, hu1, by omega, rfl, rfl⟩
  exact ad_ne (by omega) (by omega) (by omega) (by omega) (by omega)
/-- the seventh -/
theorem rp_7 (h : TX t K sizes items rsz rit) (hP : PS 6 v) (ha : AR draft v) {p : Nat} (hp : p < K) : fX5_readsPeel (nI p) (-9) rsz rit draft (nI t) = some (nI (p + 5), nI p, draft) := by
  have hK := h.2.1
  have e1v : ald 35 draft 1 = some 6 := by rw [r35_1 ha, hP.1.1]; rfl
  unfold fX5_readsPeel
  rw [m_look1 h hp, bd1_s]
  have key : ∀ x, fX5_readsPeel_j32 (nI p) (-9) rsz rit draft (nI t) x 5 5 0 = some (nI (p + 5), nI p, draft) := by
    intro x
    have hj : ∀ x3, fX5_readsPeel_j52 (nI p) (-9) rsz rit draft (nI t) x x3 = some (nI (p + 5), nI p, draft) := by
      intro x3
      unfold fX5_readsPeel_j52 fX5_fails fX5_fails_j18
      rw [if_pos rfl, bd1_s, rp_w h (by omega) (by omega)]
    unfold fX5_readsPeel_j32
    rw [e1v, bd1_s, hj, if_pos rfl]
    exact ite_self _
  rcases kd_eq (rit (60 * t + p)) with ⟨kd, -, -, q5⟩ | ⟨-, q5⟩
  · rw [q5, bd1_s, e1v, bd1_s, if_pos (by decide), key]
  · rw [q5, bd1_s, e1v, bd1_s, if_pos (by decide), key]
theorem rl_w {w : Nat} (hw : w < 2 ^ 31) (x y : Int32) (d : Nat → Int32) (f : Nat) : fX5_reads0_L62 rsz rit y (f + 1) x (nI w) d = some (x, nI w, d) := by
  show fX5_reads0_B62 _ _ _ _ _ _ _ = _
  unfold fX5_reads0_B62
  rw [if_neg (m1_ne hw).2]
end
section
variable {t K : Nat} {sizes items rsz rit : Nat → Int32}
theorem rl_L (h : TX t K sizes items rsz rit) {q : Nat} : ∀ (m k p fuel fuel2 : Nat) (v : Nat → Nat) (kinds places lengths downs covers draft : Nat → Int32), PS k v → v 0 = q → SL (nI k) (nI q) 0 0 0 0 kinds places lengths downs covers v k → AR draft v → p ≤ K → k + m = 6 → m < fuel → m + 2 < fuel2 →
    (∃ f r1 r2 r3 r4 r5 r6 r7 r8 at' dr, f < 1000 ∧ fX0_read_L77 240 4 (nI t) 60 items sizes (nI q) 0 0 0 0 fuel (nI p) (nI k) kinds places lengths downs covers (nI k) = some (.inl (nI f, nI t, r1, r2, nI q, 0, 0, 0, 0, r4, r5, r6, r7, r8)) ∧ fX5_reads0_L62 rsz rit (nI t) fuel2 (nI p) (-9) draft = some (at', nI f, dr) ∧ r3 = (0 : Int32)) ∨
    (∃ p' k' v' kn pl ln dn cv, p' ≤ K ∧ PS k' v' ∧ v' 0 = q ∧ SL (nI k') (nI q) 0 0 0 0 kn pl ln dn cv v' k' ∧ fX0_read_L77 240 4 (nI t) 60 items sizes (nI q) 0 0 0 0 fuel (nI p) (nI k) kinds places lengths downs covers (nI k) = some (.inr (nI p', nI k', kn, pl, ln, dn, cv)) ∧
      ((p' = K ∧ ∃ dr, AR dr v' ∧ fX5_reads0_L62 rsz rit (nI t) fuel2 (nI p) (-9) draft = some (nI p', -9, dr)) ∨ (p' < K ∧ 0 < k' ∧ ∃ at' dr, fX5_reads0_L62 rsz rit (nI t) fuel2 (nI p) (-9) draft = some (at', nI p', dr)))) := by
  have hK := h.2.1
  intro m
  induction m with
  | zero =>
    intro k p fuel fuel2 v kinds places lengths downs covers draft hP hq hs ha hp h1 h2 h3
    obtain ⟨f, rfl⟩ : ∃ f, fuel = f + 1 := ⟨fuel - 1, by omega⟩
    obtain ⟨g, rfl⟩ : ∃ g, fuel2 = g + 2 := ⟨fuel2 - 2, by omega⟩
    have hk : k = 6 := by omega
    subst hk
    refine Or.inr ⟨p, 6, v, kinds, places, lengths, downs, covers, hp, hP, hq, hs, ?_, ?_⟩
    · show fX0_read_B77 _ _ _ _ _ _ _ _ _ _ _ _ _ _ _ _ _ _ _ _ = _
      unfold fX0_read_B77
      rw [if_pos (by decide)]
    · have u5 : fX5_reads0_L62 rsz rit (nI t) (g + 2) (nI p) (-9) draft = fX5_reads0_B62 rsz rit (nI t) (fX5_reads0_L62 rsz rit (nI t) (g + 1)) (nI p) (-9) draft := rfl
      by_cases c : p < K
      · refine Or.inr ⟨c, by decide, nI (p + 5), draft, ?_⟩
        rw [u5]
        unfold fX5_reads0_B62
        rw [if_pos rfl, m_look1 h c, bd1_s, if_neg (byte_ne (tx_byte h c)).2, rp_7 h hP ha c, bd3_s, bl_w (by omega), bd1_s, rl_w (by omega)]
      · refine Or.inl ⟨by omega, draft, ha, ?_⟩
        rw [u5]
        unfold fX5_reads0_B62
        rw [if_pos rfl, m_look0 h (by omega) (by omega), bd1_s, if_pos rfl]
  | succ m ih =>
    intro k p fuel fuel2 v kinds places lengths downs covers draft hP hq hs ha hp h1 h2 h3
    obtain ⟨f, rfl⟩ : ∃ f, fuel = f + 1 := ⟨fuel - 1, by omega⟩
    obtain ⟨g, rfl⟩ : ∃ g, fuel2 = g + 2 := ⟨fuel2 - 2, by omega⟩
    have c6 : ¬ (6 : Int32) ≤ nI k := nI_ge (b := 6) (by omega) (by decide)
    have u4 : fX0_read_L77 240 4 (nI t) 60 items sizes (nI q) 0 0 0 0 (f + 1) (nI p) (nI k) kinds places lengths downs covers (nI k) = fX0_read_B77 240 4 (nI t) 60 items sizes (nI q) 0 0 0 0 (fX0_read_L77 240 4 (nI t) 60 items sizes (nI q) 0 0 0 0 f) (nI p) (nI k) kinds places lengths downs covers (nI k) := rfl
    have u5 : fX5_reads0_L62 rsz rit (nI t) (g + 2) (nI p) (-9) draft = fX5_reads0_B62 rsz rit (nI t) (fX5_reads0_L62 rsz rit (nI t) (g + 1)) (nI p) (-9) draft := rfl
    rw [u4, u5]
    unfold fX0_read_B77 fX5_reads0_B62
    rw [if_neg c6, if_pos rfl]
    by_cases c : p < K
    rotate_left
    · rw [c_sign0 h (by omega) (by omega), m_look0 h (by omega) (by omega), bd1_s, bd1_s, if_pos rfl, if_pos rfl]
      exact Or.inr ⟨p, k, v, kinds, places, lengths, downs, covers, hp, hP, hq, hs, rfl, Or.inl ⟨by omega, draft, ha, rfl⟩⟩
    rw [c_sign1 h c, m_look1 h c, bd1_s, bd1_s, if_neg (byte_ne (tx_byte h c)).1, if_neg (byte_ne (tx_byte h c)).2]
    have hs' : SL (nI k) (nI (v 0)) 0 0 0 0 kinds places lengths downs covers v k := by rw [hq]; exact hs
    rcases rp_eq h hP (by omega) hs' ha c with ⟨v', kn, pl, ln, dn, cv, dr, hP', hS', hv0, ha', hp5, e4, e5⟩ | ⟨fl, a, b, hf, e4, e5⟩
    · obtain ⟨p', g1, g2, b4, b5⟩ := bl_eq h (p := p + 5) hp5
      rw [e4, e5, bd8_s, bd3_s, if_pos rfl, b4, b5, bd1_s, bd1_s, nI_1]
      have hq' : v' 0 = q := hv0.trans hq
      rw [hq'] at hS'
      exact ih (k + 1) p' f (g + 1) v' kn pl ln dn cv dr hP' hq' hS' ha' g2 (by omega) (by omega) (by omega)
    · have f9 : ¬ nI fl = -9 := (m1_ne (by omega)).2
      rw [e4, e5, bd8_s, bd3_s, if_neg f9, bl_w (by omega), bd1_s, rl_w (by omega)]
      exact Or.inl ⟨fl, a, nI k, 0, kinds, places, lengths, downs, covers, nI b, draft, hf, rfl, rfl, rfl⟩
theorem m_zero_L : ∀ (m j fuel : Nat) (d : Nat → Int32), (∀ x, x < j → d x = 0) → j + m = 35 → m < fuel → ∃ d', fX5_reads0_L2 fuel d (nI j) = some d' ∧ ∀ x, x < 35 → d' x = 0 := by
  intro m
  induction m with
  | zero =>
    intro j fuel d hd h1 h2
    obtain ⟨f, rfl⟩ : ∃ f, fuel = f + 1 := ⟨fuel - 1, by omega⟩
    have hj : j = 35 := by omega
    subst hj
    refine ⟨d, ?_, hd⟩
    show fX5_reads0_B2 _ _ _ = _
    unfold fX5_reads0_B2
    rw [if_pos (by decide)]
  | succ m ih =>
    intro j fuel d hd h1 h2
    obtain ⟨f, rfl⟩ : ∃ f, fuel = f + 1 := ⟨fuel - 1, by omega⟩
    have c : ¬ (35 : Int32) ≤ nI j := nI_ge (b := 35) (by omega) (by decide)
    obtain ⟨d', e, h'⟩ := ih (j + 1) f (upd d j 0) (fun x hx => by
      by_cases ex : x = j
      · subst ex; rw [upd_s]
      · rw [upd_n _ _ ex]; exact hd x (by omega)) (by omega) (by omega)
    refine ⟨d', ?_, h'⟩
    show fX5_reads0_B2 _ _ _ = _
    unfold fX5_reads0_B2
    rw [if_neg c, s35 (by omega), bd1_s, nI_1]
    exact e
/-- a text is read, on both sides -/
theorem read_eq (h : TX t K sizes items rsz rit) (kinds places lengths downs covers draft : Nat → Int32) :
    (∃ k v pl r1 kn pls ln dn cv at' dr, 0 < k ∧ PS k v ∧ SL (nI k) (nI (v 0)) 0 0 0 0 kn pls ln dn cv v k ∧ AR dr v ∧ fX0_read 240 4 60 items sizes kinds places lengths downs covers (nI t) = some (-9, nI t, pl, nI k, nI (v 0), 0, 0, 0, 0, kn, pls, ln, dn, cv) ∧ fX5_reads0 rsz rit draft (nI t) = some (-9, at', -9, dr) ∧ r1 = (0 : Int32)) ∨
    (∃ f r1 r2 r3 r4 r5 r6 r7 r8 r9 r10 r11 r12 r13 at' wr dr, f < 1000 ∧ fX0_read 240 4 60 items sizes kinds places lengths downs covers (nI t) = some (nI f, r1, r2, r3, r4, r5, r6, r7, r8, r9, r10, r11, r12, r13) ∧ fX5_reads0 rsz rit draft (nI t) = some (nI f, at', wr, dr)) := by
  have hK := h.2.1
  obtain ⟨d0, z0, hd0⟩ := m_zero_L 35 0 FU draft (fun x hx => absurd hx (Nat.not_lt_zero x)) (by omega) (by decide)
  have z0 : fX5_reads0_L2 FU draft 0 = some d0 := z0
  have ha0 : AR d0 (fun _ => 0) := fun x hx => hd0 x hx
  obtain ⟨p0, -, hp0, b4, b5⟩ := bl_eq h (p := 0) (Nat.zero_le K)
  have b4 : fX0_skipBlanks 240 4 (nI t) 0 60 items sizes = _ := b4
  have b5 : fX5_blanks 0 (-9) rsz rit (nI t) = _ := b5
  have s0 : ∀ w x, ast 35 w 0 x = some (upd w 0 x) := fun w x => s35 (j := 0) (by decide)
  -- the reference, once it is wrong
  have wrongs : ∀ (f a : Nat) (x : Int32), f < 1000 → ∃ at' wr dr, (bd1 (ast 35 d0 0 x) fun draft_56 =>
      bd1 (fX5_blanks (nI a) (nI f) rsz rit (nI t)) fun m_at_59 =>
      bd3 (fX5_reads0_L62 rsz rit (nI t) FU m_at_59 (nI f) draft_56) fun m_at_L62 wrong_L62 draft_L62 =>
      if wrong_L62 = (-9) then
        bd1 (ald 35 draft_L62 1) fun v109 =>
        if v109 = 0 then
          bd1 (ald 4 rsz (nI t)) fun v119 =>
          bd1 (fX5_fails wrong_L62 v119) fun wrong_120 =>
          fX5_reads0_j123 m_at_L62 wrong_120 draft_L62
        else
          fX5_reads0_j123 m_at_L62 wrong_L62 draft_L62
      else
        fX5_reads0_j123 m_at_L62 wrong_L62 draft_L62) = some (nI f, at', wr, dr) := by
    intro f a x hf
    have f9 : ¬ nI f = -9 := (m1_ne (by omega)).2
    have hl : ∀ d, fX5_reads0_L62 rsz rit (nI t) FU (nI a) (nI f) d = some (nI a, nI f, d) := fun d => rl_w (by omega) _ _ d 99999
    exact ⟨_, _, _, by rw [s0, bd1_s, bl_w (by omega), bd1_s, hl, bd3_s, if_neg f9]; rfl⟩
  unfold fX0_read fX3_clear fX5_reads0
  rw [bd6_s, b4, bd1_s, z0, bd1_s, b5, bd1_s]
  -- the letter n
  by_cases cn : ∃ x, fX0_sign 240 4 (nI t) (nI p0) 60 items sizes = some x ∧ x = 110
  rotate_left
  · have cx : ∃ x, fX0_sign 240 4 (nI t) (nI p0) 60 items sizes = some x := by
      by_cases c : p0 < K
      · exact ⟨_, c_sign1 h c⟩
      · exact ⟨_, c_sign0 h (by omega) (by omega)⟩
    obtain ⟨x, ex⟩ := cx
    have nx : ¬ x = 110 := fun z => cn ⟨x, ex, z⟩
    have ny : ∃ y, fX5_look (nI p0) rsz rit (nI t) = some y ∧ ¬ y = 110 := by
      by_cases c : p0 < K
      · refine ⟨_, m_look1 h c, ?_⟩
        rw [c_sign1 h c] at ex
        rw [Option.some.inj ex]
        exact nx
      · exact ⟨_, m_look0 h (by omega) (by omega), by decide⟩
    obtain ⟨y, ey, ny⟩ := ny
    unfold fX5_letter fX5_letter_j26 fX5_fails fX5_fails_j18
    rw [ex, bd1_s, if_neg nx, if_pos rfl, ey, bd1_s, if_neg ny, if_pos rfl, bd1_s, bd2_s, nI_1, fg_w h (by omega) (by omega), bd3_s]
    obtain ⟨at', wr, dr, e⟩ := wrongs p0 (p0 + 1 + 1) 0 (by omega)
    unfold fX5_fails fX5_fails_j18 at e
    exact Or.inr ⟨p0, _, _, _, _, _, _, _, _, _, _, _, _, _, at', wr, dr, by omega, rfl, e⟩
  obtain ⟨x, ex, rfl⟩ := cn
  have hpK : p0 < K := by
    by_cases c : p0 < K
    · exact c
    · rw [c_sign0 h (by omega) (by omega)] at ex
      exact absurd (Option.some.inj ex) (by decide)
  have ey : fX5_look (nI p0) rsz rit (nI t) = some 110 := by
    rw [m_look1 h hpK]
    rw [c_sign1 h hpK] at ex
    exact ex
  have elet : fX5_letter (nI p0) (-9) rsz rit (nI t) 110 = some (nI (p0 + 1), -9) := by
    unfold fX5_letter fX5_letter_j26
    rw [if_pos rfl, ey, bd1_s, if_pos rfl, nI_1]
  rw [ex, bd1_s, if_pos rfl, elet, bd2_s, nI_1]
  -- by how many places
  rcases fg h (p := p0 + 1) (a := 1) (b := 4) (by omega) (by decide) (by decide) with ⟨q, qa, qb, hp1, f4, f5⟩ | ⟨f4, f5⟩
  rotate_left
  · have f4 : fX0_figure 240 4 (nI t) (nI (p0 + 1)) 60 items sizes 1 4 = _ := f4
    have f5 : fX5_figure (nI (p0 + 1)) (-9) rsz rit (nI t) 1 4 = _ := f5
    rw [f4, f5, bd2_s, if_pos rfl, bd3_s]
    obtain ⟨at', wr, dr, e⟩ := wrongs (p0 + 1) (p0 + 1 + 1) 0 (by omega)
    exact Or.inr ⟨p0 + 1, _, _, _, _, _, _, _, _, _, _, _, _, _, at', wr, dr, by omega, rfl, e⟩
  have f4 : fX0_figure 240 4 (nI t) (nI (p0 + 1)) 60 items sizes 1 4 = _ := f4
  have f5 : fX5_figure (nI (p0 + 1)) (-9) rsz rit (nI t) 1 4 = _ := f5
  have q9 : ¬ nI q = -9 := (m1_ne (by omega)).2
  obtain ⟨p1, -, hp1', b4', b5'⟩ := bl_eq h (p := p0 + 1 + 1) (by omega)
  have ha1 : AR (upd d0 0 (nI q)) (upN (fun _ => 0) 0 q) := ha0.up 0 q
  have hP0 : PS 0 (upN (fun _ => 0) 0 q) := by
    refine ⟨⟨rfl, by decide, by rw [upN_n _ _ (by decide)]; exact Nat.le_refl 0, by rw [upN_n _ _ (by decide)]; decide, by rw [upN_n _ _ (by decide)]; decide, ?_, fun z => absurd z (by decide), fun i hi => absurd hi (Nat.not_lt_zero i)⟩, rfl, rfl, ?_, fun y hy => upN_n _ _ (by omega), fun i hi => absurd hi (Nat.not_lt_zero i)⟩
    · rw [upN_s]; exact qb
    · rw [upN_s]; exact qa
  have hS0 : SL (nI 0) (nI q) 0 0 0 0 kinds places lengths downs covers (upN (fun _ => 0) 0 q) 0 := ⟨rfl, by rw [upN_s], rfl, rfl, rfl, rfl, fun i hi => absurd hi (Nat.not_lt_zero i)⟩
  rw [f4, f5, bd2_s, if_neg q9, bd3_s, s0, bd1_s, b4', b5', bd1_s, bd1_s]
  rcases rl_L h (q := q) 6 0 p1 FU FU (upN (fun _ => 0) 0 q) kinds places lengths downs covers (upd d0 0 (nI q)) hP0 (upN_s _ _ _) hS0 ha1 hp1' (by omega) (by decide) (by decide) with ⟨f, r1, r2, r3, r4, r5, r6, r7, r8, at', dr, hf, e4, e5, -⟩ | ⟨p', k', v', kn, pl, ln, dn, cv, hp', hP', hq', hS', e4, hr⟩
  · have e4 : fX0_read_L77 240 4 (nI t) 60 items sizes (nI q) 0 0 0 0 FU (nI p1) 0 kinds places lengths downs covers 0 = _ := e4
    have f9 : ¬ nI f = -9 := (m1_ne (by omega)).2
    rw [e4, e5, st7_l, bd3_s, if_neg f9]
    exact Or.inr ⟨f, _, _, _, _, _, _, _, _, _, _, _, _, _, _, _, _, hf, rfl, rfl⟩
  have e4 : fX0_read_L77 240 4 (nI t) 60 items sizes (nI q) 0 0 0 0 FU (nI p1) 0 kinds places lengths downs covers 0 = _ := e4
  rw [e4, st7_r]
  have hk6 := hP'.1.2.1
  rcases hr with ⟨rfl, dr, har, e5⟩ | ⟨hlt, hk0, at', dr, e5⟩
  · rw [e5, bd3_s, if_pos rfl, r35_1 har, bd1_s, hP'.1.1]
    by_cases c0 : k' = 0
    · subst c0
      unfold fX0_read_j144 fX5_fails fX5_fails_j18 fX5_reads0_j123
      rw [if_pos (by decide), if_pos (by decide), a4 h.1, bd1_s, if_pos rfl, bd1_s, h.2.2.2.1]
      exact Or.inr ⟨p', _, _, _, _, _, _, _, _, _, _, _, _, _, _, _, _, by omega, rfl, rfl⟩
    · rw [if_neg (nI_nle (by omega) (by omega)), c_sign0 h (Nat.le_refl _) (by omega), bd1_s, if_pos rfl, if_neg (nI_ne0 (by omega) (by omega))]
      unfold fX5_reads0_j123
      rw [← hq'] at hS' ⊢
      exact Or.inl ⟨k', v', _, 0, kn, pl, ln, dn, cv, _, dr, by omega, hP', hS', har, rfl, rfl, rfl⟩
  · have f9 : ¬ nI p' = -9 := (m1_ne (by omega)).2
    unfold fX0_read_j144 fX5_reads0_j123
    rw [if_neg (nI_nle hk0 (by omega)), c_sign1 h hlt, bd1_s, if_neg (byte_ne (tx_byte h hlt)).1, e5, bd3_s, if_neg f9]
    exact Or.inr ⟨p', _, _, _, _, _, _, _, _, _, _, _, _, _, _, _, _, by omega, rfl, rfl⟩
end
