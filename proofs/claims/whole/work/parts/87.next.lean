/-! ===== pure: next ===== -/
theorem n_jmax {a b : Nat} (ha : a < 2 ^ 31) (hb : b < 2 ^ 31) : jmax (nI a) (nI b) = nI (if a ≤ b then b else a) := by
  unfold jmax
  by_cases c : a < b
  · rw [if_pos (nI_lt c hb), if_pos (by omega)]
  · rw [if_neg (nI_nlt (by omega) ha)]
    by_cases d : a ≤ b
    · rw [if_pos d, show a = b by omega]
    · rw [if_neg d]
theorem sumN_one {F : Nat → Nat} (hF : ∀ j, F j = 0 ∨ F j = 1) : pcN (orB F 16) = sumN F 16 := by
  rw [pcN_sum]
  refine sumN_cong (fun j hj => ?_)
  rw [orB_bit F hj]
  rcases hF j with e | e
  · rw [e, if_neg (by decide)]
  · rw [e, if_pos rfl]
theorem orN_zero : ∀ n, orN (fun _ => 0) n = 0
  | 0 => rfl
  | n + 1 => by rw [orN, orN_zero n]; rfl
theorem sumN_zero {F : Nat → Nat} : ∀ {n : Nat}, sumN F n = 0 → ∀ j, j < n → F j = 0
  | 0, _, j, hj => absurd hj (Nat.not_lt_zero j)
  | n + 1, h, j, hj => by
    rw [sumN] at h
    by_cases e : j = n
    · subst e; omega
    · exact sumN_zero (F := F) (n := n) (by omega) j (by omega)
theorem sumN_mono {F G : Nat → Nat} : ∀ {n : Nat}, (∀ j, j < n → F j ≤ G j) → sumN F n ≤ sumN G n
  | 0, _ => Nat.le_refl _
  | n + 1, h => by
    have h1 := sumN_mono (F := F) (G := G) (n := n) (fun j hj => h j (by omega))
    have h2 := h n (by omega)
    rw [sumN, sumN]
    omega
/-- of the places that fit (F), on how many a line is read (the lines there: G) -/
def rdN (F G : Nat → Nat) (l n : Nat) : Nat := sumN (fun p => F p * (G p / 2 ^ l % 2)) n
def ptN (F G : Nat → Nat) (l : Nat) : Nat := if rdN F G l 16 ≤ sumN F 16 - rdN F G l 16 then sumN F 16 - rdN F G l 16 else rdN F G l 16
theorem rd_le {F G : Nat → Nat} (l : Nat) (n : Nat) : rdN F G l n ≤ sumN F n := sumN_mono (fun j _ => by
  have h : G j / 2 ^ l % 2 < 2 := Nat.mod_lt _ (by decide)
  rcases (show G j / 2 ^ l % 2 = 0 ∨ G j / 2 ^ l % 2 = 1 by omega) with e | e <;> rw [e] <;> omega)
theorem sumF_le {F : Nat → Nat} (hF : ∀ j, F j = 0 ∨ F j = 1) (n : Nat) : sumN F n ≤ n := by
  have := sumN_le F 1 n (fun j _ => by rcases hF j with e | e <;> omega)
  omega
theorem pt_le {F G : Nat → Nat} (l : Nat) : ptN F G l ≤ sumN F 16 := by
  have := rd_le (F := F) (G := G) l 16
  unfold ptN
  split <;> omega
section
variable {F G : Nat → Nat} {sc : Nat → Int32}
theorem c_rd_L (hF : ∀ j, F j = 0 ∨ F j = 1) (hG : ∀ p, G p < 256) (hsc : ∀ p, p < 16 → sc p = nI (G p)) {l : Nat} (hl : l < 8) : ∀ (m p fuel : Nat), p + m = 16 → m < fuel → fX4_lineToLookAt_L98 sc (nI (orB F 16)) (nI l) fuel (nI (rdN F G l p)) (nI p) = some (nI (rdN F G l 16)) := by
  have hlt : orB F 16 < 65536 := orB_lt F 16
  intro m
  induction m with
  | zero =>
    intro p fuel h1 h2
    obtain ⟨f, rfl⟩ : ∃ f, fuel = f + 1 := ⟨fuel - 1, by omega⟩
    have hp : p = 16 := by omega
    subst hp
    show fX4_lineToLookAt_B98 _ _ _ _ _ _ = _
    unfold fX4_lineToLookAt_B98
    rw [if_pos (by decide)]
  | succ m ih =>
    intro p fuel h1 h2
    obtain ⟨f, rfl⟩ : ∃ f, fuel = f + 1 := ⟨fuel - 1, by omega⟩
    have c16 : ¬ (16 : Int32) ≤ nI p := nI_ge (a := p) (b := 16) (by omega) (by decide)
    have e1 : fX4_bit (nI (orB F 16)) (nI p) = some (nI (F p)) := by
      unfold fX4_bit
      rw [n_bit (by omega) (by omega), orB_bit F (by omega)]
      rcases hF p with e | e
      · rw [e, if_neg (by decide)]
      · rw [e, if_pos rfl]
    have hg := hG p
    have e2 : fX4_bit (nI (G p)) (nI l) = some (nI (G p / 2 ^ l % 2)) := by
      unfold fX4_bit
      rw [n_bit (by omega) (by omega)]
    show fX4_lineToLookAt_B98 _ _ _ _ _ _ = _
    unfold fX4_lineToLookAt_B98
    rw [if_neg c16, e1, bd1_s, ald_nI (by omega) (by decide), bd1_s, hsc p (by omega), e2, bd1_s, nI_mul, nI_add, nI_1]
    exact ih (p + 1) f (by omega) (by omega)
theorem c_lk1 (hF : ∀ j, F j = 0 ∨ F j = 1) (hG : ∀ p, G p < 256) (hsc : ∀ p, p < 16 → sc p = nI (G p)) {l : Nat} (hl : l < 8) (rec : Int32 → Int32 → Int32 → Option (Int32 × Int32)) (x5 x6 : Int32) : fX4_lineToLookAt_B85 sc (nI (orB F 16)) (nI (sumN F 16)) rec x5 x6 (nI l) = if x6 ≤ nI (ptN F G l) then rec x5 x6 (nI (l + 1)) else rec (nI l) (nI (ptN F G l)) (nI (l + 1)) := by
  have e : fX4_lineToLookAt_L98 sc (nI (orB F 16)) (nI l) FU 0 0 = _ := c_rd_L hF hG hsc hl 16 0 FU (by omega) (by decide)
  have h1 := rd_le (F := F) (G := G) l 16
  have h2 := sumF_le hF 16
  have c8 : ¬ (8 : Int32) ≤ nI l := nI_ge (a := l) (b := 8) (by omega) (by decide)
  have ej : jmax (nI (rdN F G l 16)) (nI (sumN F 16) - nI (rdN F G l 16)) = nI (ptN F G l) := by
    rw [nI_sub h1, n_jmax (by omega) (by omega)]
    rfl
  unfold fX4_lineToLookAt_B85 fX4_lineToLookAt_j162
  rw [if_neg c8, e, bd1_s, ej, nI_1]
end
section
variable {items sizes rsz rit : Nat → Int32} {size need lifted licked morning tally : Int32} {kinds places lengths downs covers : Nat → Int32} {v : Nat → Nat} {n B : Nat} {now : Nat → Int32}
/-- the lines behind so many mornings, from a place -/
def glN (v : Nat → Nat) (i M p : Nat) : Nat := liV (paN (upN v (6 + 5 * i) p) M)
theorem glN_lt (v : Nat → Nat) (i M p : Nat) : glN v i M p < 256 := liV_lt _
theorem fpN_01 (v : Nat → Nat) (f : Nat → Int32) (k i p : Nat) : fpN v f k i p = 0 ∨ fpN v f k i p = 1 := fitN_01 _ _ _
theorem c_lk_L (hs : SL size need lifted licked morning tally kinds places lengths downs covers v n) (hw : WF v n B) (hB : B ≤ 40) {i : Nat} (hi : i < n) {M : Nat} (hM : M ≤ 41) : ∀ (m p fuel : Nat) (a1 a2 a3 a4 a5 a6' : Int32) (b1 b2 b3 b4 b5 sc : Nat → Int32), (∀ j, j < p → sc j = nI (glN v i M j)) → p + m = 16 → m < fuel →
    ∃ sz nd lf lk mo ta kn pl ln dn cv sc', fX4_lineToLookAt_L3 size need lifted licked morning tally kinds places lengths downs covers (nI i) (nI M) fuel a1 a2 a3 a4 a5 a6' b1 b2 b3 b4 b5 sc (nI p) = some (sz, nd, lf, lk, mo, ta, kn, pl, ln, dn, cv, sc') ∧ ∀ j, j < 16 → sc' j = nI (glN v i M j) := by
  have hn6 := hw.2.1
  intro m
  induction m with
  | zero =>
    intro p fuel a1 a2 a3 a4 a5 a6' b1 b2 b3 b4 b5 sc hsc h1 h2
    obtain ⟨f, rfl⟩ : ∃ f, fuel = f + 1 := ⟨fuel - 1, by omega⟩
    have hp : p = 16 := by omega
    subst hp
    refine ⟨a1, a2, a3, a4, a5, a6', b1, b2, b3, b4, b5, sc, ?_, hsc⟩
    · show fX4_lineToLookAt_B3 _ _ _ _ _ _ _ _ _ _ _ _ _ _ _ _ _ _ _ _ _ _ _ _ _ _ _ = _
      unfold fX4_lineToLookAt_B3
      rw [if_pos (by decide)]
  | succ m ih =>
    intro p fuel a1 a2 a3 a4 a5 a6' b1 b2 b3 b4 b5 sc hsc h1 h2
    obtain ⟨f, rfl⟩ : ∃ f, fuel = f + 1 := ⟨fuel - 1, by omega⟩
    have hp : p < 16 := by omega
    obtain ⟨k1, p1, l1, d1, v1, et, hT⟩ := c_take b1 b2 b3 b4 b5 (o_size := size) (o_need := need) (o_lifted := lifted) (o_licked := licked) (o_morning := morning) (o_tally := tally) (o_kinds := kinds) (o_places := places) (o_lengths := lengths) (o_downs := downs) (o_covers := covers)
    obtain ⟨pl, dn, cv, es, hS⟩ := c_settleP (hT v n hn6 hs) hw hi hp
    have hwp := upP_WF hw hi hp
    obtain ⟨mo', ta', pl', dn', cv', ef, hS'⟩ := c_fallT hS hwp (by omega) (by omega) (k := M) (by omega)
    have el : fX3_linesNow size need lifted licked cv' = some (nI (glN v i M p)) := c_linesNow hS' (paN_WF hwp M) (by omega)
    have c16 : ¬ (16 : Int32) ≤ nI p := nI_ge (a := p) (b := 16) (by omega) (by decide)
    obtain ⟨q1, q2, q3, q4, q5, q6, q7, q8, q9, q10, q11, sc', hq, hsc'⟩ := ih (p + 1) f size need lifted licked mo' ta' k1 pl' l1 dn' cv' (upd sc p (nI (glN v i M p))) (fun j hj => by
      by_cases e : j = p
      · subst e; rw [upd_s]
      · rw [upd_n _ _ e]; exact hsc j (by omega)) (by omega) (by omega)
    refine ⟨q1, q2, q3, q4, q5, q6, q7, q8, q9, q10, q11, sc', ?_, hsc'⟩
    have u4 : fX4_lineToLookAt_L3 size need lifted licked morning tally kinds places lengths downs covers (nI i) (nI M) (f + 1) a1 a2 a3 a4 a5 a6' b1 b2 b3 b4 b5 sc (nI p) = fX4_lineToLookAt_B3 size need lifted licked morning tally kinds places lengths downs covers (nI i) (nI M) (fX4_lineToLookAt_L3 size need lifted licked morning tally kinds places lengths downs covers (nI i) (nI M) f) a1 a2 a3 a4 a5 a6' b1 b2 b3 b4 b5 sc (nI p) := rfl
    rw [u4]
    unfold fX4_lineToLookAt_B3
    rw [if_neg c16, et, bd11_s, c_downOf hs hw hi, bd1_s, es, bd3_s, ef, bd5_s, el, bd1_s, ast_nI (by omega) (by decide), bd1_s, nI_1]
    exact hq
/-- the reference: places that fit, and on how many of them the line is read -/
theorem m_nx_L (ha : AR now v) (hw : WF v n B) (hB : B ≤ 40) {i : Nat} (hi : i < n) {r k : Nat} (hr : r < 6) (hk : k ≤ 40) (s2 : rsz r = nI k) {l : Nat} (hl : l < 8) : ∀ (m p fuel : Nat) (t : Nat → Int32), p + m = 16 → m < fuel →
    ∃ t', fX5_next_L60 rsz rit now (nI i) (nI r) (nI l) fuel t (nI (sumN (fpN v (fun j => rit (40 * r + j)) k i) p)) (nI (rdN (fpN v (fun j => rit (40 * r + j)) k i) (glN v i (k + 1)) l p)) (nI p) = some (t', nI (sumN (fpN v (fun j => rit (40 * r + j)) k i) 16), nI (rdN (fpN v (fun j => rit (40 * r + j)) k i) (glN v i (k + 1)) l 16)) := by
  have hn6 := hw.2.1
  intro m
  induction m with
  | zero =>
    intro p fuel t h1 h2
    obtain ⟨f, rfl⟩ : ∃ f, fuel = f + 1 := ⟨fuel - 1, by omega⟩
    have hp : p = 16 := by omega
    subst hp
    exact ⟨t, by show fX5_next_B60 _ _ _ _ _ _ _ _ _ _ _ = _; unfold fX5_next_B60; rw [if_pos (by decide)]⟩
  | succ m ih =>
    intro p fuel t h1 h2
    obtain ⟨f, rfl⟩ : ∃ f, fuel = f + 1 := ⟨fuel - 1, by omega⟩
    have hwp := upP_WF hw hi (show p < 16 by omega)
    obtain ⟨t1, e1, ht1⟩ := m_fits (rsz := rsz) (rit := rit) ha (i := i) (o := 1) (a := p) (by omega) (by decide) hwp (by omega) hr hk s2 t
    have ht1 : AR t1 (paN (upN v (6 + 5 * i) p) k) := ht1
    have e1 : fX5_isReadSo rsz rit now t (nI r) (nI i) 1 (nI p) = some (nI (fpN v (fun j => rit (40 * r + j)) k i p), t1) := e1
    have c16 : ¬ (16 : Int32) ≤ nI p := nI_ge (a := p) (b := 16) (by omega) (by decide)
    obtain ⟨t2, ht2, e2⟩ := m_passes ht1 (paN_WF hwp k) (by omega)
    rw [liV_next (paN_WF hwp k)] at e2
    have e2 : fX5_passes 35 t1 = some (nI (glN v i (k + 1) p), t2) := e2
    have hg := glN_lt v i (k + 1) p
    have eS : sumN (fpN v (fun j => rit (40 * r + j)) k i) (p + 1) = sumN (fpN v (fun j => rit (40 * r + j)) k i) p + fpN v (fun j => rit (40 * r + j)) k i p := rfl
    have eR : rdN (fpN v (fun j => rit (40 * r + j)) k i) (glN v i (k + 1)) l (p + 1) = rdN (fpN v (fun j => rit (40 * r + j)) k i) (glN v i (k + 1)) l p + fpN v (fun j => rit (40 * r + j)) k i p * (glN v i (k + 1) p / 2 ^ l % 2) := rfl
    have u5 : ∀ a b, fX5_next_L60 rsz rit now (nI i) (nI r) (nI l) (f + 1) t a b (nI p) = fX5_next_B60 rsz rit now (nI i) (nI r) (nI l) (fX5_next_L60 rsz rit now (nI i) (nI r) (nI l) f) t a b (nI p) := fun _ _ => rfl
    rcases fpN_01 v (fun j => rit (40 * r + j)) k i p with c | c
    · obtain ⟨t3, hq⟩ := ih (p + 1) f t1 (by omega) (by omega)
      refine ⟨t3, ?_⟩
      rw [eS, eR, c, Nat.zero_mul, Nat.add_zero, Nat.add_zero] at hq
      rw [u5]
      unfold fX5_next_B60 fX5_next_j99
      rw [if_neg c16, e1, bd2_s, c, if_pos (by decide), nI_1]
      exact hq
    · obtain ⟨t3, hq⟩ := ih (p + 1) f t2 (by omega) (by omega)
      refine ⟨t3, ?_⟩
      rw [eS, eR, c, Nat.one_mul] at hq
      rw [u5]
      unfold fX5_next_B60 fX5_next_j99
      rw [if_neg c16, e1, bd2_s, c, if_neg (by decide), e2, bd2_s, n_bit (by omega) (by omega), nI_add, nI_1, nI_1]
      exact hq
theorem m_nx1 (ha : AR now v) (hw : WF v n B) (hB : B ≤ 40) {i : Nat} (hi : i < n) {r k : Nat} (hr : r < 6) (hk : k ≤ 40) (s2 : rsz r = nI k) {l : Nat} (hl : l < 8) (rec : (Nat → Int32) → Int32 → Int32 → Int32 → Option ((Nat → Int32) × Int32 × Int32)) (t : Nat → Int32) (x4 x5 : Int32) : ∃ t', fX5_next_B44 rsz rit now (nI i) (nI r) rec t x4 x5 (nI l) = if sumN (fpN v (fun j => rit (40 * r + j)) k i) 16 = 0 then rec t' x4 x5 (nI (l + 1)) else if x5 ≤ nI (ptN (fpN v (fun j => rit (40 * r + j)) k i) (glN v i (k + 1)) l) then rec t' x4 x5 (nI (l + 1)) else rec t' (nI l) (nI (ptN (fpN v (fun j => rit (40 * r + j)) k i) (glN v i (k + 1)) l)) (nI (l + 1)) := by
  obtain ⟨t1, e1⟩ := m_nx_L (rsz := rsz) (rit := rit) ha hw hB hi hr hk s2 hl 16 0 FU t (by omega) (by decide)
  have e1 : fX5_next_L60 rsz rit now (nI i) (nI r) (nI l) FU t 0 0 0 = _ := e1
  refine ⟨t1, ?_⟩
  have h1 := rd_le (F := fpN v (fun j => rit (40 * r + j)) k i) (G := glN v i (k + 1)) l 16
  have h2 := sumF_le (fpN_01 v (fun j => rit (40 * r + j)) k i) 16
  have c8 : ¬ (8 : Int32) ≤ nI l := nI_ge (a := l) (b := 8) (by omega) (by decide)
  unfold fX5_next_B44
  rw [if_neg c8, e1, bd3_s, nI_sub h1]
  have key : ∀ z, fX5_next_j125 rec rsz rit now t1 (nI i) (nI r) x4 x5 (nI l) (nI (sumN (fpN v (fun j => rit (40 * r + j)) k i) 16)) (nI z) = if sumN (fpN v (fun j => rit (40 * r + j)) k i) 16 = 0 then rec t1 x4 x5 (nI (l + 1)) else if x5 ≤ nI z then rec t1 x4 x5 (nI (l + 1)) else rec t1 (nI l) (nI z) (nI (l + 1)) := by
    intro z
    unfold fX5_next_j125 fX5_next_j144 fX5_next_j146 fX5_next_j165 fX5_next_j167
    rw [nI_1]
    by_cases c0 : sumN (fpN v (fun j => rit (40 * r + j)) k i) 16 = 0
    · have c0' : nI (sumN (fpN v (fun j => rit (40 * r + j)) k i) 16) ≤ 0 := by rw [c0]; decide
      rw [if_pos c0', if_pos c0', if_pos c0]
    · have c0' : ¬ nI (sumN (fpN v (fun j => rit (40 * r + j)) k i) 16) ≤ 0 := nI_nle (by omega) (by omega)
      rw [if_neg c0', if_neg c0', if_neg c0]
      by_cases c : x5 ≤ nI z
      · rw [if_pos c, if_pos c, if_pos c]
      · rw [if_neg c, if_neg c0', if_neg c, if_neg c]
  unfold ptN
  by_cases c : rdN (fpN v (fun j => rit (40 * r + j)) k i) (glN v i (k + 1)) l 16 ≤ sumN (fpN v (fun j => rit (40 * r + j)) k i) 16 - rdN (fpN v (fun j => rit (40 * r + j)) k i) (glN v i (k + 1)) l 16
  · rw [if_pos (nI_le c (by omega)), key, if_pos c]
  · rw [if_neg (nI_ge (by omega) (by omega)), key, if_neg c]
theorem nx_0 (ha : AR now v) (hw : WF v n B) (hB : B ≤ 40) {i : Nat} (hi : i < n) {r k : Nat} (hr : r < 6) (hk : k ≤ 40) (s2 : rsz r = nI k) (h0 : sumN (fpN v (fun j => rit (40 * r + j)) k i) 16 = 0) : ∀ (m l fuel : Nat) (t : Nat → Int32), l + m = 8 → m < fuel → ∃ t', fX5_next_L44 rsz rit now (nI i) (nI r) fuel t (-9) 17 (nI l) = some (t', -9, 17) := by
  intro m
  induction m with
  | zero =>
    intro l fuel t h1 h2
    obtain ⟨f, rfl⟩ : ∃ f, fuel = f + 1 := ⟨fuel - 1, by omega⟩
    have hp : l = 8 := by omega
    subst hp
    exact ⟨t, by show fX5_next_B44 _ _ _ _ _ _ _ _ _ _ = _; unfold fX5_next_B44; rw [if_pos (by decide)]⟩
  | succ m ih =>
    intro l fuel t h1 h2
    obtain ⟨f, rfl⟩ : ∃ f, fuel = f + 1 := ⟨fuel - 1, by omega⟩
    obtain ⟨t1, e1⟩ := m_nx1 (rsz := rsz) (rit := rit) ha hw hB hi hr hk s2 (l := l) (by omega) (fX5_next_L44 rsz rit now (nI i) (nI r) f) t (-9) 17
    obtain ⟨t2, e2⟩ := ih (l + 1) f t1 (by omega) (by omega)
    refine ⟨t2, ?_⟩
    show fX5_next_B44 _ _ _ _ _ _ _ _ _ _ = _
    rw [e1, if_pos h0]
    exact e2
theorem nx_1 (ha : AR now v) (hw : WF v n B) (hB : B ≤ 40) {i : Nat} (hi : i < n) {r k : Nat} (hr : r < 6) (hk : k ≤ 40) (s2 : rsz r = nI k) (h0 : ¬ sumN (fpN v (fun j => rit (40 * r + j)) k i) 16 = 0) {sc : Nat → Int32} (hsc : ∀ p, p < 16 → sc p = nI (glN v i (k + 1) p)) : ∀ (m l fuel : Nat) (t : Nat → Int32) (a : Nat) (y : Int32), a < 8 → l + m = 8 → m < fuel → ∃ t' b z, b < 8 ∧ fX4_lineToLookAt_L85 sc (nI (orB (fpN v (fun j => rit (40 * r + j)) k i) 16)) (nI (sumN (fpN v (fun j => rit (40 * r + j)) k i) 16)) fuel (nI a) y (nI l) = some (nI b, z) ∧ fX5_next_L44 rsz rit now (nI i) (nI r) fuel t (nI a) y (nI l) = some (t', nI b, z) := by
  intro m
  induction m with
  | zero =>
    intro l fuel t a y hab h1 h2
    obtain ⟨f, rfl⟩ : ∃ f, fuel = f + 1 := ⟨fuel - 1, by omega⟩
    have hp : l = 8 := by omega
    subst hp
    refine ⟨t, a, y, hab, ?_, ?_⟩
    · show fX4_lineToLookAt_B85 _ _ _ _ _ _ _ = _
      unfold fX4_lineToLookAt_B85
      rw [if_pos (by decide)]
    · show fX5_next_B44 _ _ _ _ _ _ _ _ _ _ = _
      unfold fX5_next_B44
      rw [if_pos (by decide)]
  | succ m ih =>
    intro l fuel t a y hab h1 h2
    obtain ⟨f, rfl⟩ : ∃ f, fuel = f + 1 := ⟨fuel - 1, by omega⟩
    obtain ⟨t1, e1⟩ := m_nx1 (rsz := rsz) (rit := rit) ha hw hB hi hr hk s2 (l := l) (by omega) (fX5_next_L44 rsz rit now (nI i) (nI r) f) t (nI a) y
    have e4 := c_lk1 (fpN_01 v (fun j => rit (40 * r + j)) k i) (glN_lt v i (k + 1)) hsc (l := l) (by omega) (fX4_lineToLookAt_L85 sc (nI (orB (fpN v (fun j => rit (40 * r + j)) k i) 16)) (nI (sumN (fpN v (fun j => rit (40 * r + j)) k i) 16)) f) (nI a) y
    rw [if_neg h0] at e1
    have u4 : fX4_lineToLookAt_L85 sc (nI (orB (fpN v (fun j => rit (40 * r + j)) k i) 16)) (nI (sumN (fpN v (fun j => rit (40 * r + j)) k i) 16)) (f + 1) (nI a) y (nI l) = fX4_lineToLookAt_B85 sc (nI (orB (fpN v (fun j => rit (40 * r + j)) k i) 16)) (nI (sumN (fpN v (fun j => rit (40 * r + j)) k i) 16)) (fX4_lineToLookAt_L85 sc (nI (orB (fpN v (fun j => rit (40 * r + j)) k i) 16)) (nI (sumN (fpN v (fun j => rit (40 * r + j)) k i) 16)) f) (nI a) y (nI l) := rfl
    have u5 : fX5_next_L44 rsz rit now (nI i) (nI r) (f + 1) t (nI a) y (nI l) = fX5_next_B44 rsz rit now (nI i) (nI r) (fX5_next_L44 rsz rit now (nI i) (nI r) f) t (nI a) y (nI l) := rfl
    rw [u4, u5, e4, e1]
    by_cases c : y ≤ nI (ptN (fpN v (fun j => rit (40 * r + j)) k i) (glN v i (k + 1)) l)
    · rw [if_pos c, if_pos c]
      exact ih (l + 1) f t1 a y hab (by omega) (by omega)
    · rw [if_neg c, if_neg c]
      exact ih (l + 1) f t1 l _ (by omega) (by omega) (by omega)
theorem fl_next (hs : SL size need lifted licked morning tally kinds places lengths downs covers v n) (hw : WF v n B) (hB : B ≤ 40) (ha : AR now v) (hR : RW 6 40 (fun _ => True) sizes items rsz rit) (fi asked : Int32) {F4 F5 : Nat → Int32} (hF : ∀ j, j < 6 → F4 j = F5 j) (a1 a2 a3 a4 a5 a6' : Int32) (b1 b2 b3 b4 b5 sc tried : Nat → Int32) (x1 x2 : Int32) :
    ∃ r fi' as' sz nd lf lk mo ta kn pl ln dn cv sc' F4' t F5', fX4_next fi asked items sizes size need lifted licked morning tally kinds places lengths downs covers a1 a2 a3 a4 a5 a6' b1 b2 b3 b4 b5 sc F4 x1 x2 = some (r, fi', as', sz, nd, lf, lk, mo, ta, kn, pl, ln, dn, cv, sc', F4') ∧ fX5_next fi asked rsz rit now tried F5 x1 x2 = some (r, fi', as', t, F5') ∧ ∀ j, j < 6 → F4' j = F5' j := by
  have hn6 := hw.2.1
  rcases spl x1 (k := n) (by omega) with ⟨i, hi, rfl⟩ | hx
  rotate_left
  · exact ⟨_, _, _, _, _, _, _, _, _, _, _, _, _, _, _, _, _, _, by unfold fX4_next; rw [c_has0 hs hx, bd1_s, if_pos rfl], by unfold fX5_next; rw [m_isPeel0 ha hw hx, bd1_s, if_pos rfl], hF⟩
  rcases spl x2 (k := 6) (by decide) with ⟨r, hr, rfl⟩ | hx
  rotate_left
  · exact ⟨_, _, _, _, _, _, _, _, _, _, _, _, _, _, _, _, _, _, by unfold fX4_next; rw [c_has1 hs hw hi, bd1_s, if_neg one_ne, (row_out hx).1, bd1_s, if_pos rfl], by unfold fX5_next; rw [m_isPeel1 ha hw hi, bd1_s, if_neg one_ne, (row_out hx).2, bd1_s, if_pos rfl], hF⟩
  rcases flaw_eq hR hr with ⟨f, f1, f5, g4, g5⟩ | ⟨k, k1, k10, s1, s2, he, g4, g5⟩
  · have n1 : ¬ nI f = 0 := nI_ne0 (by omega) (by omega)
    have n2 : ¬ nI f ≤ 0 := nI_nle (by omega) (by omega)
    exact ⟨_, _, _, _, _, _, _, _, _, _, _, _, _, _, _, _, _, _, by unfold fX4_next; rw [c_has1 hs hw hi, bd1_s, if_neg one_ne, (row_in r hr).1, bd1_s, if_neg one_ne, g4, bd1_s, if_neg n1, (find_n F4 f1 f5).1, bd3_s], by unfold fX5_next; rw [m_isPeel1 ha hw hi, bd1_s, if_neg one_ne, (row_in r hr).2, bd1_s, if_neg one_ne, g5, bd1_s, if_neg n2, (find_n F5 f1 f5).2, bd3_s], upd_eq6 hF (by omega)⟩
  obtain ⟨sz, nd, lf, lk, mo, ta, kn, pl, ln, dn, cv, e4⟩ := c_places_L (items := items) (sizes := sizes) hs hw hB hi hr (k := k) (by omega) s1 16 0 FU a1 a2 a3 a4 a5 a6' b1 b2 b3 b4 b5 (by omega) (by decide)
  have ef : fpN v (fun j => items (40 * r + j)) k i = fpN v (fun j => rit (40 * r + j)) k i := by
    funext p
    exact fitN_cong he
  rw [ef] at e4
  have e4 : fX4_fittingPlaces_L5 items sizes size need lifted licked morning tally kinds places lengths downs covers (nI i) (nI r) FU a1 a2 a3 a4 a5 a6' b1 b2 b3 b4 b5 0 0 = _ := e4
  have e4' : fX4_fittingPlaces items sizes size need lifted licked morning tally kinds places lengths downs covers a1 a2 a3 a4 a5 a6' b1 b2 b3 b4 b5 (nI i) (nI r) = some (nI (orB (fpN v (fun j => rit (40 * r + j)) k i) 16), sz, nd, lf, lk, mo, ta, kn, pl, ln, dn, cv) := by
    unfold fX4_fittingPlaces
    rw [e4, bd12_s]
  have hpc := sumN_one (fpN_01 v (fun j => rit (40 * r + j)) k i)
  have hA := sumF_le (fpN_01 v (fun j => rit (40 * r + j)) k i) 16
  have hlt : orB (fpN v (fun j => rit (40 * r + j)) k i) 16 < 65536 := orB_lt _ 16
  by_cases h0 : sumN (fpN v (fun j => rit (40 * r + j)) k i) 16 = 0
  · have hz : orB (fpN v (fun j => rit (40 * r + j)) k i) 16 = 0 := by
      unfold orB
      rw [orN_cong (g := fun _ => 0) (fun j hj => by rw [sumN_zero h0 j hj, if_neg (by decide)]), orN_zero]
    rw [hz] at e4'
    obtain ⟨t, e5⟩ := nx_0 (rsz := rsz) (rit := rit) ha hw hB hi hr (by omega) s2 h0 8 0 FU tried (by omega) (by decide)
    have e5 : fX5_next_L44 rsz rit now (nI i) (nI r) FU tried (-9) 17 0 = _ := e5
    exact ⟨_, _, _, _, _, _, _, _, _, _, _, _, _, _, _, _, _, _, by unfold fX4_next; rw [c_has1 hs hw hi, bd1_s, if_neg one_ne, (row_in r hr).1, bd1_s, if_neg one_ne, g4, bd1_s, if_pos rfl, e4', bd12_s, if_pos (by decide)], by unfold fX5_next; rw [m_isPeel1 ha hw hi, bd1_s, if_neg one_ne, (row_in r hr).2, bd1_s, if_neg one_ne, g5, bd1_s, if_pos (by decide), e5, bd3_s, if_pos rfl], hF⟩
  · have hz : ¬ nI (orB (fpN v (fun j => rit (40 * r + j)) k i) 16) = 0 := by
      intro z
      have z := (nI_eq0 (by omega)).mp z
      rw [z] at hpc
      exact h0 (hpc.symm.trans rfl)
    obtain ⟨sz', nd', lf', lk', mo', ta', kn', pl', ln', dn', cv', sc', e6, hsc⟩ := c_lk_L hs hw hB hi (M := k + 1) (by omega) 16 0 FU sz nd lf lk mo ta kn pl ln dn cv sc (fun j hj => absurd hj (Nat.not_lt_zero j)) (by omega) (by decide)
    have e6 : fX4_lineToLookAt_L3 size need lifted licked morning tally kinds places lengths downs covers (nI i) (nI (k + 1)) FU sz nd lf lk mo ta kn pl ln dn cv sc 0 = _ := e6
    have key : ∃ t b z, b < 8 ∧ fX4_lineToLookAt_L85 sc' (nI (orB (fpN v (fun j => rit (40 * r + j)) k i) 16)) (nI (sumN (fpN v (fun j => rit (40 * r + j)) k i) 16)) FU 0 (nI (sumN (fpN v (fun j => rit (40 * r + j)) k i) 16 + 1)) 0 = some (nI b, z) ∧ fX5_next_L44 rsz rit now (nI i) (nI r) FU tried (-9) 17 0 = some (t, nI b, z) := by
      obtain ⟨t1, e1⟩ := m_nx1 (rsz := rsz) (rit := rit) ha hw hB hi hr (by omega) s2 (l := 0) (by decide) (fX5_next_L44 rsz rit now (nI i) (nI r) 99999) tried (-9) 17
      have e4 := c_lk1 (fpN_01 v (fun j => rit (40 * r + j)) k i) (glN_lt v i (k + 1)) hsc (l := 0) (by decide) (fX4_lineToLookAt_L85 sc' (nI (orB (fpN v (fun j => rit (40 * r + j)) k i) 16)) (nI (sumN (fpN v (fun j => rit (40 * r + j)) k i) 16)) 99999) 0 (nI (sumN (fpN v (fun j => rit (40 * r + j)) k i) 16 + 1))
      have hpt := pt_le (F := fpN v (fun j => rit (40 * r + j)) k i) (G := glN v i (k + 1)) 0
      have c17 : ¬ (17 : Int32) ≤ nI (ptN (fpN v (fun j => rit (40 * r + j)) k i) (glN v i (k + 1)) 0) := nI_ge (b := 17) (by omega) (by decide)
      rw [if_neg h0, if_neg c17] at e1
      rw [if_neg (nI_ge (by omega) (by omega))] at e4
      obtain ⟨t2, b, z, hb, q4, q5⟩ := nx_1 (rsz := rsz) (rit := rit) ha hw hB hi hr (by omega) s2 h0 hsc 7 1 99999 t1 0 (nI (ptN (fpN v (fun j => rit (40 * r + j)) k i) (glN v i (k + 1)) 0)) (by decide) (by omega) (by decide)
      exact ⟨t2, b, z, hb, e4.trans q4, e1.trans q5⟩
    obtain ⟨t, b, z, hb, q4, q5⟩ := key
    have hb9 : ¬ nI b = -9 := (m1_ne (by omega)).2
    have e7 : fX4_lineToLookAt size need lifted licked morning tally kinds places lengths downs covers sz nd lf lk mo ta kn pl ln dn cv sc (nI i) (nI (orB (fpN v (fun j => rit (40 * r + j)) k i) 16)) (nI (k + 1)) = some (nI b, z, sz', nd', lf', lk', mo', ta', kn', pl', ln', dn', cv', sc') := by
      unfold fX4_lineToLookAt
      rw [e6, bd12_s, bitc_n hlt, hpc, nI_1, q4, bd2_s]
    exact ⟨_, _, _, _, _, _, _, _, _, _, _, _, _, _, _, _, _, _, by unfold fX4_next; rw [c_has1 hs hw hi, bd1_s, if_neg one_ne, (row_in r hr).1, bd1_s, if_neg one_ne, g4, bd1_s, if_pos rfl, e4', bd12_s, if_neg hz, s_sizeOf (by decide) hr, s1, bd1_s, nI_1, e7, bd14_s], by unfold fX5_next fX5_tells; rw [m_isPeel1 ha hw hi, bd1_s, if_neg one_ne, (row_in r hr).2, bd1_s, if_neg one_ne, g5, bd1_s, if_pos (by decide), q5, bd3_s, if_neg hb9, bd2_s], hF⟩
end
theorem step_next : Step_next Rel := by
  intro c d h x1 x2
  obtain ⟨⟨a1, a2, a3, a4, a5⟩, hB, hC, n, V, q, k, hD⟩ := h
  obtain ⟨hw, hs, ha, hk, -⟩ := hD.get
  obtain ⟨r, fi, as', sz, nd, lf, lk, mo, ta, kn, pl, ln, dn, cv, sc', F4, t, F5, e4, e5, hF⟩ := fl_next hs hw hk ha hB (ms_finding d) (ms_asked d) a5 (cs_as_size c) (cs_as_need c) (cs_as_lifted c) (cs_as_licked c) (cs_as_morning c) (cs_as_tally c) (cs_as_kinds c) (cs_as_places c) (cs_as_lengths c) (cs_as_downs c) (cs_as_covers c) (cs_scratch c) (ms_tried d) x1 x2
  rw [← a1, ← a2] at e4
  exact go2 (map_some e4) (map_some e5) rfl ⟨⟨rfl, rfl, a3, a4, hF⟩, hB, hC, n, V, q, k, hD⟩
