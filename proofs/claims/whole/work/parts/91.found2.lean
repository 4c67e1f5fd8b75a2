/-! ===== pure: found, two peels ===== -/
section
variable {size need lifted licked morning tally : Int32} {kinds places lengths downs covers now : Nat → Int32} {v : Nat → Nat} {n B : Nat} {sizes items rsz rit sc : Nat → Int32}
theorem lf_cases (hw : WF v n B) {i : Nat} (hi : i < n) : lfV v i = 0 ∨ lfV v i = 1 := by
  have := (hw.2.2.2.2.2.2.2 i hi).2.2.2.2
  omega
theorem f1_0 (ha : AR now v) (hw : WF v n B) {i : Nat} (hi : i < n) (hl : lfV v i = 1) (x r : Int32) (rsz rit t : Nat → Int32) : fX5_found_L80 now x r (nI i) FU rsz rit t 0 = some (.inr (rsz, rit, t)) := by
  have h : ∀ f, fX5_found_L80 now x r (nI i) (f + 1) rsz rit t 0 = some (.inr (rsz, rit, t)) := by
    intro f
    have ed : fX5_isDown now (nI i) = some 0 := by rw [m_isDown ha hw hi, hl]; rfl
    show fX5_found_B80 _ _ _ _ _ _ _ _ _ = _
    unfold fX5_found_B80
    rw [if_neg (by decide), ed, bd1_s, if_pos rfl]
  exact h 99999
theorem f1o_L (hs : SL size need lifted licked morning tally kinds places lengths downs covers v n) (hw : WF v n B) (ha : AR now v) (hsc : ∀ j p, j < n → p < 16 → sc (16 * j + p) = nI (caN v j p)) (hR : RW 6 40 (fun _ => True) sizes items rsz rit) {x r : Nat} (hx : x < 256) (hr : r < 6) : ∀ (m i fuel : Nat) (t : Nat → Int32), i + m = n → m < fuel →
    (∃ items' sizes' rsz' rit' t', fX4_foundByOne_L2 size need lifted licked covers sc (nI x) (nI r) fuel items sizes (nI i) = some (.inl (1, items', sizes')) ∧ fX5_found_L67 now (nI x) (nI r) fuel rsz rit t (nI i) = some (.inl (1, rsz', rit', t')) ∧ RW 6 40 (fun _ => True) sizes' items' rsz' rit') ∨
    (∃ t', fX4_foundByOne_L2 size need lifted licked covers sc (nI x) (nI r) fuel items sizes (nI i) = some (.inr (items, sizes)) ∧ fX5_found_L67 now (nI x) (nI r) fuel rsz rit t (nI i) = some (.inr (rsz, rit, t'))) := by
  have hn6 := hw.2.1
  intro m
  induction m with
  | zero =>
    intro i fuel t h1 h2
    obtain ⟨f, rfl⟩ : ∃ f, fuel = f + 1 := ⟨fuel - 1, by omega⟩
    have hi : i = n := by omega
    subst hi
    refine Or.inr ⟨t, ?_, ?_⟩
    · show fX4_foundByOne_B2 _ _ _ _ _ _ _ _ _ _ _ _ = _
      unfold fX4_foundByOne_B2
      rw [hs.1, if_pos (nI_le (Nat.le_refl i) (by omega))]
    · show fX5_found_B67 _ _ _ _ _ _ _ _ = _
      unfold fX5_found_B67
      rw [r35_1 ha, bd1_s, hw.1, if_pos (nI_le (Nat.le_refl i) (by omega))]
  | succ m ih =>
    intro i fuel t h1 h2
    obtain ⟨f, rfl⟩ : ∃ f, fuel = f + 1 := ⟨fuel - 1, by omega⟩
    have hi : i < n := by omega
    have c6 : ¬ (6 : Int32) ≤ nI i := nI_ge (a := i) (b := 6) (by omega) (by decide)
    have c0 : ¬ size ≤ nI i := by rw [hs.1]; exact nI_ge (by omega) (by omega)
    have el : fX3_isLifted lifted (nI i) = some (nI (lfV v i)) := by rw [hs.2.2.1]; exact c_isLifted hw hi
    have u4 : fX4_foundByOne_L2 size need lifted licked covers sc (nI x) (nI r) (f + 1) items sizes (nI i) = fX4_foundByOne_B2 size need lifted licked covers sc (nI x) (nI r) (fX4_foundByOne_L2 size need lifted licked covers sc (nI x) (nI r) f) items sizes (nI i) := rfl
    have u5 : fX5_found_L67 now (nI x) (nI r) (f + 1) rsz rit t (nI i) = fX5_found_B67 now (nI x) (nI r) (fX5_found_L67 now (nI x) (nI r) f) rsz rit t (nI i) := rfl
    rw [u4, u5]
    unfold fX4_foundByOne_B2 fX5_found_B67 fX4_foundByOne_j131
    rw [if_neg c0, if_neg c6, el, bd1_s, r35_1 ha, bd1_s, hw.1, if_neg (nI_ge (by omega) (by omega))]
    rcases lf_cases hw hi with hl | hl
    · rw [hl, if_pos (by decide), c_but hs hw, bd1_s]
      rcases f1_L hs hw ha hsc hR hx hr hi hl 16 0 FU t (by omega) (by decide) with ⟨items', sizes', rsz', rit', t', q4, q5, hR'⟩ | ⟨t', q4, q5⟩
      · have q4 : fX4_foundByOne_L47 need licked sc (nI x) (nI r) (nI i) (nI (butN v (nI i) (nI i) n)) FU items sizes 0 = _ := q4
        have q5 : fX5_found_L80 now (nI x) (nI r) (nI i) FU rsz rit t 0 = _ := q5
        rw [q4, q5, sl2_l, sl3_l]
        exact Or.inl ⟨_, _, _, _, _, rfl, rfl, hR'⟩
      · have q4 : fX4_foundByOne_L47 need licked sc (nI x) (nI r) (nI i) (nI (butN v (nI i) (nI i) n)) FU items sizes 0 = _ := q4
        have q5 : fX5_found_L80 now (nI x) (nI r) (nI i) FU rsz rit t 0 = _ := q5
        rw [q4, q5, sl2_r, sl3_r, nI_1]
        exact ih (i + 1) f t' (by omega) (by omega)
    · rw [hl, if_neg (by decide), f1_0 ha hw hi hl, sl3_r, nI_1]
      exact ih (i + 1) f t (by omega) (by omega)
/-- two peels, the second one's places -/
theorem f2_L (hs : SL size need lifted licked morning tally kinds places lengths downs covers v n) (hw : WF v n B) (ha : AR now v) (hsc : ∀ j p, j < n → p < 16 → sc (16 * j + p) = nI (caN v j p)) (hR : RW 6 40 (fun _ => True) sizes items rsz rit) {x r : Nat} (hx : x < 256) (hr : r < 6) {i j : Nat} (hi : i < n) (hj : j < n) (hij : i ≠ j) (hl : lfV v i = 0) (hl2 : lfV v j = 0) {p : Nat} (hp : p < 16) : ∀ (m q fuel g : Nat) (t : Nat → Int32), q + m = 16 → m < fuel →
    (∃ items' sizes' rsz' rit' t', fX4_foundByPair_L61 need licked sc (nI x) (nI i) (nI j) (nI r) (nI p) (nI (butN v (nI i) (nI j) n ||| caN v i p)) fuel items sizes (nI q) = some (.inl (1, items', sizes')) ∧ fX5_found_L188 now (nI x) (nI r) (nI i) (nI j) (g + m) rsz rit t (nI (16 * p + q)) = some (.inl (2, rsz', rit', t')) ∧ RW 6 40 (fun _ => True) sizes' items' rsz' rit') ∨
    (∃ t', fX4_foundByPair_L61 need licked sc (nI x) (nI i) (nI j) (nI r) (nI p) (nI (butN v (nI i) (nI j) n ||| caN v i p)) fuel items sizes (nI q) = some (.inr (items, sizes)) ∧ fX5_found_L188 now (nI x) (nI r) (nI i) (nI j) (g + m) rsz rit t (nI (16 * p + q)) = fX5_found_L188 now (nI x) (nI r) (nI i) (nI j) g rsz rit t' (nI (16 * p + 16))) := by
  have hn6 := hw.2.1
  intro m
  induction m with
  | zero =>
    intro q fuel g t h1 h2
    obtain ⟨f, rfl⟩ : ∃ f, fuel = f + 1 := ⟨fuel - 1, by omega⟩
    have hq : q = 16 := by omega
    subst hq
    refine Or.inr ⟨t, ?_, rfl⟩
    show fX4_foundByPair_B61 _ _ _ _ _ _ _ _ _ _ _ _ _ = _
    unfold fX4_foundByPair_B61
    rw [if_pos (by decide)]
  | succ m ih =>
    intro q fuel g t h1 h2
    obtain ⟨f, rfl⟩ : ∃ f, fuel = f + 1 := ⟨fuel - 1, by omega⟩
    have hq : q < 16 := by omega
    have c16 : ¬ (16 : Int32) ≤ nI q := nI_ge (a := q) (b := 16) (by omega) (by decide)
    have c256 : ¬ (256 : Int32) ≤ nI (16 * p + q) := nI_ge (b := 256) (by omega) (by decide)
    have hwp := upP_WF (upP_WF hw hi hp) hj hq
    obtain ⟨t1, e1, ht1⟩ := m_tried ha t
    have ht2 := (ht1.up (6 + 5 * i) p).up (6 + 5 * j) q
    have ed : fX5_isDown now (nI i) = some 1 := by rw [m_isDown ha hw hi, hl]; rfl
    have ed2 : fX5_isDown now (nI j) = some 1 := by rw [m_isDown ha hw hj, hl2]; rfl
    have hcd := cd_two (p := p) (q := q) hw hi hj hij hl hl2
    have hC : ((butN v (nI i) (nI j) n ||| caN v i p) ||| caN v j q) &&& (v 4 ^^^ 4294967295) < 65536 := and_lt (Nat.or_lt_two_pow (n := 16) (Nat.or_lt_two_pow (n := 16) (butN_lt hw _ _) (caN_lt hw hi hp)) (caN_lt hw hj hq))
    have eC : (nI (butN v (nI i) (nI j) n ||| caN v i p) ||| nI (caN v j q)) &&& (licked ^^^ (-1)) = nI (cdV (upN (upN v (6 + 5 * i) p) (6 + 5 * j) q) 0) := by rw [hs.2.2.2.1, n_m1, n_or, n_xor, n_and, hcd]
    rw [← hcd] at hC
    obtain ⟨k1, k2⟩ := c_rd (q := v 0) (x := x) hw.2.2.2.2.2.1 hx hC
    obtain ⟨g1, g2⟩ := m_rd ht2 hwp hx
    rw [show upN (upN v (6 + 5 * i) p) (6 + 5 * j) q 0 = v 0 by rw [upN_n _ _ (by omega), upN_n _ _ (by omega)]] at g1 g2
    have d1 : nI (16 * p + q) / 16 = nI p := by
      have := pk_div (a := 16 * p + q) (d := 16) (by omega) (by decide) (by decide)
      rw [show (16 * p + q) / 16 = p by omega] at this
      exact this
    have d2 : nI (16 * p + q) - nI p * 16 = nI q := by
      have := pk_rem (a := 16 * p + q) (d := 16) (by omega) (by decide) (by decide)
      rw [show (16 * p + q) % 16 = q by omega, show nI 16 = 16 from rfl, d1] at this
      exact this
    have u4 : fX4_foundByPair_L61 need licked sc (nI x) (nI i) (nI j) (nI r) (nI p) (nI (butN v (nI i) (nI j) n ||| caN v i p)) (f + 1) items sizes (nI q) = fX4_foundByPair_B61 need licked sc (nI x) (nI i) (nI j) (nI r) (nI p) (nI (butN v (nI i) (nI j) n ||| caN v i p)) (fX4_foundByPair_L61 need licked sc (nI x) (nI i) (nI j) (nI r) (nI p) (nI (butN v (nI i) (nI j) n ||| caN v i p)) f) items sizes (nI q) := rfl
    have u5 : fX5_found_L188 now (nI x) (nI r) (nI i) (nI j) (g + (m + 1)) rsz rit t (nI (16 * p + q)) = fX5_found_B188 now (nI x) (nI r) (nI i) (nI j) (fX5_found_L188 now (nI x) (nI r) (nI i) (nI j) (g + m)) rsz rit t (nI (16 * p + q)) := rfl
    rw [u4, u5]
    unfold fX4_foundByPair_B61 fX5_found_B188
    rw [if_neg c16, if_neg c256, sc_at hsc hn6 hj hq, bd1_s, eC, hs.2.1, ed, bd1_s, if_neg one_ne, ed2, bd1_s, if_neg one_ne, e1, bd1_s, d1, d2, ix1, s35 (by omega), bd1_s, ix1, s35 (by omega), bd1_s]
    by_cases c : rdP (v 0) x (cdV (upN (upN v (6 + 5 * i) p) (6 + 5 * j) q) 0)
    · rw [k1 c, g1 c, bd1_s, bd1_s, if_neg one_ne, if_neg one_ne]
      obtain ⟨rsz', rit', q5, hR'⟩ := ans4 hR hr (nI i) (nI p) (nI j) (nI q)
      exact Or.inl ⟨_, _, rsz', rit', _, by rw [c_make0 hr, bd2_s, c_app hr (k := 0) (by decide) _ (upd_s _ _ _), bd2_s, c_app hr (k := 1) (by decide) _ (upd_s _ _ _), bd2_s, c_app hr (k := 2) (by decide) _ (upd_s _ _ _), bd2_s, c_app hr (k := 3) (by decide) _ (upd_s _ _ _), bd2_s], by rw [q5, bd2_s], hR'⟩
    · rw [k2 c, g2 c, bd1_s, bd1_s, if_pos rfl, if_pos rfl, nI_1, nI_1]
      rw [hs.2.1] at ih
      exact ih (q + 1) f g _ (by omega) (by omega)
theorem f3_L (hs : SL size need lifted licked morning tally kinds places lengths downs covers v n) (hw : WF v n B) (ha : AR now v) (hsc : ∀ j p, j < n → p < 16 → sc (16 * j + p) = nI (caN v j p)) (hR : RW 6 40 (fun _ => True) sizes items rsz rit) {x r : Nat} (hx : x < 256) (hr : r < 6) {i j : Nat} (hi : i < n) (hj : j < n) (hij : i ≠ j) (hl : lfV v i = 0) (hl2 : lfV v j = 0) : ∀ (m p fuel g : Nat) (t : Nat → Int32), p + m = 16 → m < fuel →
    (∃ items' sizes' rsz' rit' t', fX4_foundByPair_L34 need licked sc (nI x) (nI i) (nI j) (nI r) (nI (butN v (nI i) (nI j) n)) fuel items sizes (nI p) = some (.inl (1, items', sizes')) ∧ fX5_found_L188 now (nI x) (nI r) (nI i) (nI j) (g + 1 + 16 * m) rsz rit t (nI (16 * p)) = some (.inl (2, rsz', rit', t')) ∧ RW 6 40 (fun _ => True) sizes' items' rsz' rit') ∨
    (∃ t', fX4_foundByPair_L34 need licked sc (nI x) (nI i) (nI j) (nI r) (nI (butN v (nI i) (nI j) n)) fuel items sizes (nI p) = some (.inr (items, sizes)) ∧ fX5_found_L188 now (nI x) (nI r) (nI i) (nI j) (g + 1 + 16 * m) rsz rit t (nI (16 * p)) = some (.inr (rsz, rit, t'))) := by
  have hn6 := hw.2.1
  intro m
  induction m with
  | zero =>
    intro p fuel g t h1 h2
    obtain ⟨f, rfl⟩ : ∃ f, fuel = f + 1 := ⟨fuel - 1, by omega⟩
    have hp : p = 16 := by omega
    subst hp
    refine Or.inr ⟨t, ?_, ?_⟩
    · show fX4_foundByPair_B34 _ _ _ _ _ _ _ _ _ _ _ _ = _
      unfold fX4_foundByPair_B34
      rw [if_pos (by decide)]
    · show fX5_found_B188 _ _ _ _ _ _ _ _ _ _ = _
      unfold fX5_found_B188
      rw [if_pos (by decide)]
  | succ m ih =>
    intro p fuel g t h1 h2
    obtain ⟨f, rfl⟩ : ∃ f, fuel = f + 1 := ⟨fuel - 1, by omega⟩
    have hp : p < 16 := by omega
    have c16 : ¬ (16 : Int32) ≤ nI p := nI_ge (a := p) (b := 16) (by omega) (by decide)
    have u4 : fX4_foundByPair_L34 need licked sc (nI x) (nI i) (nI j) (nI r) (nI (butN v (nI i) (nI j) n)) (f + 1) items sizes (nI p) = fX4_foundByPair_B34 need licked sc (nI x) (nI i) (nI j) (nI r) (nI (butN v (nI i) (nI j) n)) (fX4_foundByPair_L34 need licked sc (nI x) (nI i) (nI j) (nI r) (nI (butN v (nI i) (nI j) n)) f) items sizes (nI p) := rfl
    rw [u4, show g + 1 + 16 * (m + 1) = g + 1 + 16 * m + 16 by omega]
    unfold fX4_foundByPair_B34
    rw [if_neg c16, sc_at hsc hn6 hi hp, bd1_s, n_or]
    rcases f2_L hs hw ha hsc hR hx hr hi hj hij hl hl2 hp 16 0 FU (g + 1 + 16 * m) t (by omega) (by decide) with ⟨items', sizes', rsz', rit', t', q4, q5, hR'⟩ | ⟨t', q4, q5⟩
    · have q4 : fX4_foundByPair_L61 need licked sc (nI x) (nI i) (nI j) (nI r) (nI p) (nI (butN v (nI i) (nI j) n ||| caN v i p)) FU items sizes 0 = _ := q4
      rw [show 16 * p + 0 = 16 * p from rfl] at q5
      rw [q4, q5, sl2_l]
      exact Or.inl ⟨_, _, _, _, _, rfl, rfl, hR'⟩
    · have q4 : fX4_foundByPair_L61 need licked sc (nI x) (nI i) (nI j) (nI r) (nI p) (nI (butN v (nI i) (nI j) n ||| caN v i p)) FU items sizes 0 = _ := q4
      rw [show 16 * p + 0 = 16 * p from rfl, show 16 * p + 16 = 16 * (p + 1) by omega] at q5
      rw [q4, q5, sl2_r, nI_1]
      exact ih (p + 1) f g t' (by omega) (by omega)
theorem f3 (hs : SL size need lifted licked morning tally kinds places lengths downs covers v n) (hw : WF v n B) (ha : AR now v) (hsc : ∀ j p, j < n → p < 16 → sc (16 * j + p) = nI (caN v j p)) (hR : RW 6 40 (fun _ => True) sizes items rsz rit) {x r : Nat} (hx : x < 256) (hr : r < 6) {i j : Nat} (hi : i < n) (hj : j < n) (hij : i ≠ j) (hl : lfV v i = 0) (hl2 : lfV v j = 0) (t : Nat → Int32) :
    (∃ items' sizes' rsz' rit' t', fX4_foundByPair items sizes size need lifted licked covers sc (nI x) (nI i) (nI j) (nI r) = some (1, items', sizes') ∧ fX5_found_L188 now (nI x) (nI r) (nI i) (nI j) FU rsz rit t 0 = some (.inl (2, rsz', rit', t')) ∧ RW 6 40 (fun _ => True) sizes' items' rsz' rit') ∨
    (∃ t', fX4_foundByPair items sizes size need lifted licked covers sc (nI x) (nI i) (nI j) (nI r) = some (0, items, sizes) ∧ fX5_found_L188 now (nI x) (nI r) (nI i) (nI j) FU rsz rit t 0 = some (.inr (rsz, rit, t'))) := by
  have hn6 := hw.2.1
  have z1 : fX4_isIn (nI i) 6 = some 1 := (inK1 (k := 5) (by decide) (by omega)).1
  have z2 : fX4_isIn (nI j) 6 = some 1 := (inK1 (k := 5) (by decide) (by omega)).1
  unfold fX4_foundByPair
  rw [z1, bd1_s, if_neg one_ne, z2, bd1_s, if_neg one_ne, c_but hs hw, bd1_s]
  rcases f3_L hs hw ha hsc hR hx hr hi hj hij hl hl2 16 0 FU 99743 t (by omega) (by decide) with ⟨items', sizes', rsz', rit', t', q4, q5, hR'⟩ | ⟨t', q4, q5⟩
  · have q4 : fX4_foundByPair_L34 need licked sc (nI x) (nI i) (nI j) (nI r) (nI (butN v (nI i) (nI j) n)) FU items sizes 0 = _ := q4
    have q5 : fX5_found_L188 now (nI x) (nI r) (nI i) (nI j) FU rsz rit t 0 = _ := q5
    rw [q4, st2_l]
    exact Or.inl ⟨_, _, _, _, _, rfl, q5, hR'⟩
  · have q4 : fX4_foundByPair_L34 need licked sc (nI x) (nI i) (nI j) (nI r) (nI (butN v (nI i) (nI j) n)) FU items sizes 0 = _ := q4
    have q5 : fX5_found_L188 now (nI x) (nI r) (nI i) (nI j) FU rsz rit t 0 = _ := q5
    rw [q4, st2_r]
    exact Or.inr ⟨t', rfl, q5⟩
theorem f3_0 (ha : AR now v) (hw : WF v n B) {i j : Nat} (hi : i < n) (hj : j < n) (hl : lfV v i = 1 ∨ lfV v j = 1) (x r : Int32) (rsz rit t : Nat → Int32) : fX5_found_L188 now x r (nI i) (nI j) FU rsz rit t 0 = some (.inr (rsz, rit, t)) := by
  have h : ∀ f, fX5_found_L188 now x r (nI i) (nI j) (f + 1) rsz rit t 0 = some (.inr (rsz, rit, t)) := by
    intro f
    show fX5_found_B188 _ _ _ _ _ _ _ _ _ _ = _
    unfold fX5_found_B188
    rw [if_neg (by decide), m_isDown ha hw hi, bd1_s, m_isDown ha hw hj, bd1_s]
    rcases lf_cases hw hi with e | e
    · rcases hl with hl | hl
      · omega
      · rw [e, hl, if_neg (by decide), if_pos (by decide)]
    · rw [e, if_pos (by decide)]
  exact h 99999
theorem f4_L (hs : SL size need lifted licked morning tally kinds places lengths downs covers v n) (hw : WF v n B) (ha : AR now v) (hsc : ∀ j p, j < n → p < 16 → sc (16 * j + p) = nI (caN v j p)) (hR : RW 6 40 (fun _ => True) sizes items rsz rit) {x r : Nat} (hx : x < 256) (hr : r < 6) {i : Nat} (hi : i < n) : ∀ (m j fuel : Nat) (t : Nat → Int32), j + m = n → i < j → m < fuel →
    (∃ items' sizes' rsz' rit' t', fX4_foundByTwo_L18 size need lifted licked covers sc (nI x) (nI r) (nI i) fuel items sizes (nI j) = some (.inl (1, items', sizes')) ∧ fX5_found_L174 now (nI x) (nI r) (nI i) fuel rsz rit t (nI j) = some (.inl (2, rsz', rit', t')) ∧ RW 6 40 (fun _ => True) sizes' items' rsz' rit') ∨
    (∃ t', fX4_foundByTwo_L18 size need lifted licked covers sc (nI x) (nI r) (nI i) fuel items sizes (nI j) = some (.inr (items, sizes)) ∧ fX5_found_L174 now (nI x) (nI r) (nI i) fuel rsz rit t (nI j) = some (.inr (rsz, rit, t'))) := by
  have hn6 := hw.2.1
  intro m
  induction m with
  | zero =>
    intro j fuel t h1 hij h2
    obtain ⟨f, rfl⟩ : ∃ f, fuel = f + 1 := ⟨fuel - 1, by omega⟩
    have hj : j = n := by omega
    subst hj
    refine Or.inr ⟨t, ?_, ?_⟩
    · show fX4_foundByTwo_B18 _ _ _ _ _ _ _ _ _ _ _ _ _ = _
      unfold fX4_foundByTwo_B18
      rw [hs.1, if_pos (nI_le (Nat.le_refl j) (by omega))]
    · show fX5_found_B174 _ _ _ _ _ _ _ _ _ = _
      unfold fX5_found_B174
      rw [r35_1 ha, bd1_s, hw.1, if_pos (nI_le (Nat.le_refl j) (by omega))]
  | succ m ih =>
    intro j fuel t h1 hij h2
    obtain ⟨f, rfl⟩ : ∃ f, fuel = f + 1 := ⟨fuel - 1, by omega⟩
    have hj : j < n := by omega
    have c0 : ¬ size ≤ nI j := by rw [hs.1]; exact nI_ge (by omega) (by omega)
    have el : fX3_isLifted lifted (nI i) = some (nI (lfV v i)) := by rw [hs.2.2.1]; exact c_isLifted hw hi
    have el2 : fX3_isLifted lifted (nI j) = some (nI (lfV v j)) := by rw [hs.2.2.1]; exact c_isLifted hw hj
    have u4 : fX4_foundByTwo_L18 size need lifted licked covers sc (nI x) (nI r) (nI i) (f + 1) items sizes (nI j) = fX4_foundByTwo_B18 size need lifted licked covers sc (nI x) (nI r) (nI i) (fX4_foundByTwo_L18 size need lifted licked covers sc (nI x) (nI r) (nI i) f) items sizes (nI j) := rfl
    have u5 : fX5_found_L174 now (nI x) (nI r) (nI i) (f + 1) rsz rit t (nI j) = fX5_found_B174 now (nI x) (nI r) (nI i) (fX5_found_L174 now (nI x) (nI r) (nI i) f) rsz rit t (nI j) := rfl
    rw [u4, u5]
    unfold fX4_foundByTwo_B18 fX5_found_B174 fX4_foundByTwo_j67
    rw [if_neg c0, el, bd1_s, el2, bd1_s, r35_1 ha, bd1_s, hw.1, if_neg (nI_ge (by omega) (by omega))]
    rcases lf_cases hw hi with hl | hl
    · rcases lf_cases hw hj with hl2 | hl2
      · rw [hl, hl2, if_pos (by decide), if_pos (by decide)]
        rcases f3 hs hw ha hsc hR hx hr hi hj (by omega) hl hl2 t with ⟨items', sizes', rsz', rit', t', q4, q5, hR'⟩ | ⟨t', q4, q5⟩
        · rw [q4, q5, bd3_s, if_neg one_ne, sl3_l]
          exact Or.inl ⟨_, _, _, _, _, rfl, rfl, hR'⟩
        · rw [q4, q5, bd3_s, if_pos rfl, sl3_r, nI_1]
          exact ih (j + 1) f t' (by omega) (by omega) (by omega)
      · rw [hl, hl2, if_pos (by decide), if_neg (by decide), f3_0 ha hw hi hj (Or.inr hl2), sl3_r, nI_1]
        exact ih (j + 1) f t (by omega) (by omega) (by omega)
    · rw [hl, if_neg (by decide), f3_0 ha hw hi hj (Or.inl hl), sl3_r, nI_1]
      exact ih (j + 1) f t (by omega) (by omega) (by omega)
theorem f5_L (hs : SL size need lifted licked morning tally kinds places lengths downs covers v n) (hw : WF v n B) (ha : AR now v) (hsc : ∀ j p, j < n → p < 16 → sc (16 * j + p) = nI (caN v j p)) (hR : RW 6 40 (fun _ => True) sizes items rsz rit) {x r : Nat} (hx : x < 256) (hr : r < 6) : ∀ (m i fuel : Nat) (t : Nat → Int32), i + m = n → m < fuel →
    (∃ items' sizes' rsz' rit' t', fX4_foundByTwo_L2 size need lifted licked covers sc (nI x) (nI r) fuel items sizes (nI i) = some (.inl (1, items', sizes')) ∧ fX5_found_L159 now (nI x) (nI r) fuel rsz rit t (nI i) = some (.inl (2, rsz', rit', t')) ∧ RW 6 40 (fun _ => True) sizes' items' rsz' rit') ∨
    (∃ t', fX4_foundByTwo_L2 size need lifted licked covers sc (nI x) (nI r) fuel items sizes (nI i) = some (.inr (items, sizes)) ∧ fX5_found_L159 now (nI x) (nI r) fuel rsz rit t (nI i) = some (.inr (rsz, rit, t'))) := by
  have hn6 := hw.2.1
  intro m
  induction m with
  | zero =>
    intro i fuel t h1 h2
    obtain ⟨f, rfl⟩ : ∃ f, fuel = f + 1 := ⟨fuel - 1, by omega⟩
    have hi : i = n := by omega
    subst hi
    refine Or.inr ⟨t, ?_, ?_⟩
    · show fX4_foundByTwo_B2 _ _ _ _ _ _ _ _ _ _ _ _ = _
      unfold fX4_foundByTwo_B2
      rw [hs.1, if_pos (nI_le (Nat.le_refl i) (by omega))]
    · show fX5_found_B159 _ _ _ _ _ _ _ _ = _
      unfold fX5_found_B159
      rw [r35_1 ha, bd1_s, hw.1, if_pos (nI_le (Nat.le_refl i) (by omega))]
  | succ m ih =>
    intro i fuel t h1 h2
    obtain ⟨f, rfl⟩ : ∃ f, fuel = f + 1 := ⟨fuel - 1, by omega⟩
    have hi : i < n := by omega
    have c0 : ¬ size ≤ nI i := by rw [hs.1]; exact nI_ge (by omega) (by omega)
    have u4 : fX4_foundByTwo_L2 size need lifted licked covers sc (nI x) (nI r) (f + 1) items sizes (nI i) = fX4_foundByTwo_B2 size need lifted licked covers sc (nI x) (nI r) (fX4_foundByTwo_L2 size need lifted licked covers sc (nI x) (nI r) f) items sizes (nI i) := rfl
    have u5 : fX5_found_L159 now (nI x) (nI r) (f + 1) rsz rit t (nI i) = fX5_found_B159 now (nI x) (nI r) (fX5_found_L159 now (nI x) (nI r) f) rsz rit t (nI i) := rfl
    rw [u4, u5]
    unfold fX4_foundByTwo_B2 fX5_found_B159
    rw [if_neg c0, r35_1 ha, bd1_s, hw.1, if_neg (nI_ge (by omega) (by omega)), nI_1]
    rcases f4_L hs hw ha hsc hR hx hr hi (n - (i + 1)) (i + 1) FU t (by omega) (by omega) (Nat.lt_of_le_of_lt (Nat.le_trans (Nat.sub_le _ _) hn6) (by decide)) with ⟨items', sizes', rsz', rit', t', q4, q5, hR'⟩ | ⟨t', q4, q5⟩
    · rw [q4, q5, sl2_l, sl3_l]
      exact Or.inl ⟨_, _, _, _, _, rfl, rfl, hR'⟩
    · rw [q4, q5, sl2_r, sl3_r]
      exact ih (i + 1) f t' (by omega) (by omega)
theorem fl_found (hs : SL size need lifted licked morning tally kinds places lengths downs covers v n) (hw : WF v n B) (ha : AR now v) (hR : RW 6 40 (fun _ => True) sizes items rsz rit) (sc tried : Nat → Int32) (x1 x2 : Int32) :
    ∃ r items' sizes' sc' rsz' rit' t', fX4_found items sizes size need lifted licked kinds lengths downs covers sc x1 x2 = some (r, items', sizes', sc') ∧ fX5_found rsz rit now tried x1 x2 = some (r, rsz', rit', t') ∧ RW 6 40 (fun _ => True) sizes' items' rsz' rit' := by
  have hn6 := hw.2.1
  rcases spl x1 (k := 256) (by decide) with ⟨x, hx, rfl⟩ | hx
  rotate_left
  · exact ⟨_, _, _, _, _, _, _, by unfold fX4_found; rw [areL, in256_0 hx, bd1_s, if_pos rfl], by unfold fX5_found; rw [in256_0 hx, bd1_s, if_pos rfl], hR⟩
  rcases spl x2 (k := 6) (by decide) with ⟨r, hr, rfl⟩ | hx2
  rotate_left
  · exact ⟨_, _, _, _, _, _, _, by unfold fX4_found; rw [areL, in256_1 hx, bd1_s, if_neg one_ne, (row_out hx2).1, bd1_s, if_pos rfl], by unfold fX5_found; rw [in256_1 hx, bd1_s, if_neg one_ne, (row_out hx2).2, bd1_s, if_pos rfl], hR⟩
  by_cases n0 : n = 0
  · exact ⟨_, _, _, _, _, _, _, by unfold fX4_found; rw [areL, in256_1 hx, bd1_s, if_neg one_ne, (row_in r hr).1, bd1_s, if_neg one_ne, if_pos (c_any0 hs n0)], by unfold fX5_found; rw [in256_1 hx, bd1_s, if_neg one_ne, (row_in r hr).2, bd1_s, if_neg one_ne, m_any0 ha hw n0, bd1_s, if_pos rfl], hR⟩
  obtain ⟨t1, e1, ht1⟩ := m_tried ha tried
  obtain ⟨k1, k2⟩ := c_rd (q := v 0) (x := x) hw.2.2.2.2.2.1 hx (cdV_lt hw 0)
  obtain ⟨g1, g2⟩ := m_rd ht1 hw hx
  by_cases c : rdP (v 0) x (cdV v 0)
  · obtain ⟨rit', q5, h5⟩ := m_ans hr (k := 0) (by decide) 0 0 0 0 rsz rit
    have q5 : fX5_answers rsz rit (nI r) 0 0 0 0 0 = _ := q5
    have hR' : RW 6 40 (fun _ => True) (upd sizes r (nI 0)) items (upd rsz r (nI 0)) rit' := hR.ans (k := 0) (by decide) (upd_s _ _ _) (fun r' e => upd_n _ _ e) (fun j hj => absurd hj (Nat.not_lt_zero j)) (fun y hy => rfl) h5
    exact ⟨_, _, _, _, _, _, _, by unfold fX4_found; rw [areL, in256_1 hx, bd1_s, if_neg one_ne, (row_in r hr).1, bd1_s, if_neg one_ne, if_neg (c_any1 hs hw n0), c_coveredNow hs hw, bd1_s, hs.2.1, k1 c, bd1_s, if_neg one_ne, c_make0 hr, bd2_s], by unfold fX5_found; rw [in256_1 hx, bd1_s, if_neg one_ne, (row_in r hr).2, bd1_s, if_neg one_ne, m_any1 ha hw n0, bd1_s, if_neg one_ne, e1, bd1_s, g1 c, bd1_s, if_neg one_ne, q5, bd2_s], hR'⟩
  obtain ⟨sc', el, hsc⟩ := c_lay hs hw sc
  have h4 : ∀ o, fX4_foundByOne items sizes size need lifted licked covers sc' (nI x) (nI r) = o → fX4_found items sizes size need lifted licked kinds lengths downs covers sc (nI x) (nI r) = bd3 o fun v66 r_items_66 r_sizes_66 =>
          if v66 = 0 then
            bd3 (fX4_foundByTwo r_items_66 r_sizes_66 size need lifted licked covers sc' (nI x) (nI r)) fun v77 r_items_77 r_sizes_77 =>
            if v77 = 0 then
              some ((-9), r_items_77, r_sizes_77, sc')
            else
              some (2, r_items_77, r_sizes_77, sc')
          else
            some (1, r_items_66, r_sizes_66, sc') := by
    intro o ho
    unfold fX4_found
    have ek : fX3_areRead need (nI x) (nI (cdV v 0)) = some 0 := by rw [hs.2.1]; exact k2 c
    rw [areL, in256_1 hx, bd1_s, if_neg one_ne, (row_in r hr).1, bd1_s, if_neg one_ne, if_neg (c_any1 hs hw n0), c_coveredNow hs hw, bd1_s, ek, bd1_s, if_pos rfl, el, bd1_s, ho]
  have h5 : ∀ o, fX5_found_L67 now (nI x) (nI r) FU rsz rit t1 0 = o → fX5_found rsz rit now tried (nI x) (nI r) = st3 o fun rowSize_L67 rows_L67 tried_L67 =>
          st3 (fX5_found_L159 now (nI x) (nI r) FU rowSize_L67 rows_L67 tried_L67 0) fun rowSize_L159 rows_L159 tried_L159 =>
          some ((-9), rowSize_L159, rows_L159, tried_L159) := by
    intro o ho
    unfold fX5_found
    rw [in256_1 hx, bd1_s, if_neg one_ne, (row_in r hr).2, bd1_s, if_neg one_ne, m_any1 ha hw n0, bd1_s, if_neg one_ne, e1, bd1_s, g2 c, bd1_s, if_pos rfl, ho]
  rcases f1o_L hs hw ha hsc hR hx hr n 0 FU t1 (by omega) (Nat.lt_of_le_of_lt hn6 (by decide)) with ⟨items', sizes', rsz', rit', t', q4, q5, hR'⟩ | ⟨t', q4, q5⟩
  · have q4 : fX4_foundByOne_L2 size need lifted licked covers sc' (nI x) (nI r) FU items sizes 0 = _ := q4
    have q4' : fX4_foundByOne items sizes size need lifted licked covers sc' (nI x) (nI r) = some (1, items', sizes') := by unfold fX4_foundByOne; rw [q4, st2_l]
    exact ⟨_, _, _, _, _, _, _, by rw [h4 _ q4', bd3_s, if_neg one_ne], by rw [h5 _ q5, st3_l], hR'⟩
  · have q4 : fX4_foundByOne_L2 size need lifted licked covers sc' (nI x) (nI r) FU items sizes 0 = _ := q4
    have q4' : fX4_foundByOne items sizes size need lifted licked covers sc' (nI x) (nI r) = some (0, items, sizes) := by unfold fX4_foundByOne; rw [q4, st2_r]
    rcases f5_L hs hw ha hsc hR hx hr n 0 FU t' (by omega) (Nat.lt_of_le_of_lt hn6 (by decide)) with ⟨items', sizes', rsz', rit', t2, p4, p5, hR'⟩ | ⟨t2, p4, p5⟩
    · have p4 : fX4_foundByTwo_L2 size need lifted licked covers sc' (nI x) (nI r) FU items sizes 0 = _ := p4
      have p5 : fX5_found_L159 now (nI x) (nI r) FU rsz rit t' 0 = _ := p5
      have p4' : fX4_foundByTwo items sizes size need lifted licked covers sc' (nI x) (nI r) = some (1, items', sizes') := by unfold fX4_foundByTwo; rw [p4, st2_l]
      exact ⟨_, _, _, _, _, _, _, by rw [h4 _ q4', bd3_s, if_pos rfl, p4', bd3_s, if_neg one_ne], by rw [h5 _ q5, st3_r, p5, st3_l], hR'⟩
    · have p4 : fX4_foundByTwo_L2 size need lifted licked covers sc' (nI x) (nI r) FU items sizes 0 = _ := p4
      have p5 : fX5_found_L159 now (nI x) (nI r) FU rsz rit t' 0 = _ := p5
      have p4' : fX4_foundByTwo items sizes size need lifted licked covers sc' (nI x) (nI r) = some (0, items, sizes) := by unfold fX4_foundByTwo; rw [p4, st2_r]
      exact ⟨_, _, _, _, _, _, _, by rw [h4 _ q4', bd3_s, if_pos rfl, p4', bd3_s, if_pos rfl], by rw [h5 _ q5, st3_r, p5, st3_r], hR⟩
end
theorem step_found : Step_found Rel := by
  intro c d h x1 x2
  obtain ⟨hA, hB, hC, n, V, q, k, hD⟩ := h
  obtain ⟨hw, hs, ha, hk, -⟩ := hD.get
  obtain ⟨r, items', sizes', sc', rsz', rit', t', e4, e5, hR⟩ := fl_found hs hw ha hB (cs_scratch c) (ms_tried d) x1 x2
  exact go2 (map_some e4) (map_some e5) rfl ⟨hA, hR, hC, n, V, q, k, hD⟩
