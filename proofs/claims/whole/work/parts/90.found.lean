/-! ===== pure: found ===== -/
/-- all lines of a set are read -/
def rdP (q x C : Nat) : Prop := ∀ l, l < 8 → x / 2 ^ l % 2 = 1 → ¬ pcN (C &&& lineN l) < q
theorem lns_orB (q C : Nat) : lnsN q C = orB (fun l => if pcN (C &&& lineN l) < q then 0 else 1) 8 := by
  unfold lnsN orB
  refine orN_cong (fun j _ => ?_)
  by_cases c : pcN (C &&& lineN j) < q
  · simp only [if_pos c]
    rfl
  · simp only [if_neg c]
    rfl
theorem rd_iff {q x C : Nat} (hx : x < 256) : x &&& lnsN q C = x ↔ rdP q x C := by
  have hb : ∀ l, l < 8 → lnsN q C / 2 ^ l % 2 = if pcN (C &&& lineN l) < q then 0 else 1 := by
    intro l hl
    rw [lns_orB, orB_bit _ hl]
    by_cases c : pcN (C &&& lineN l) < q
    · simp only [if_pos c]
      rfl
    · simp only [if_neg c]
      rfl
  constructor
  · intro h l hl h1 hc
    have hz := hb l hl
    rw [if_pos hc] at hz
    have := Nat.testBit_and x (lnsN q C) l
    rw [h, tb_eq, tb_eq, h1, hz] at this
    exact absurd this (by decide)
  · intro h
    refine Nat.eq_of_testBit_eq (fun l => ?_)
    rw [Nat.testBit_and]
    by_cases hl : l < 8
    · have hz := hb l hl
      rw [tb_eq x, tb_eq (lnsN q C), hz]
      by_cases h1 : x / 2 ^ l % 2 = 1
      · rw [if_neg (h l hl h1), h1]
        rfl
      · rw [decide_eq_false h1]
        rfl
    · have h28 : 2 ^ 8 ≤ 2 ^ l := Nat.pow_le_pow_right (by decide) (by omega)
      have : x.testBit l = false := Nat.testBit_lt_two_pow (Nat.lt_of_lt_of_le hx h28)
      rw [this]
      rfl
theorem c_rdL {q x C : Nat} (hq : q ≤ 4) (hx : x < 256) (hC : C < 65536) : ∀ (m l fuel : Nat), l + m = 8 → m < fuel → (∀ j, j < l → x / 2 ^ j % 2 = 1 → ¬ pcN (C &&& lineN j) < q) → (rdP q x C → fX3_areRead_L2 (nI q) (nI x) (nI C) fuel (nI l) = some (.inr ())) ∧ (¬ rdP q x C → fX3_areRead_L2 (nI q) (nI x) (nI C) fuel (nI l) = some (.inl 0)) := by
  intro m
  induction m with
  | zero =>
    intro l fuel h1 h2 hok
    obtain ⟨f, rfl⟩ : ∃ f, fuel = f + 1 := ⟨fuel - 1, by omega⟩
    have hl : l = 8 := by omega
    subst hl
    refine ⟨fun _ => ?_, fun z => absurd hok z⟩
    show fX3_areRead_B2 _ _ _ _ _ = _
    unfold fX3_areRead_B2
    rw [if_pos (by decide)]
  | succ m ih =>
    intro l fuel h1 h2 hok
    obtain ⟨f, rfl⟩ : ∃ f, fuel = f + 1 := ⟨fuel - 1, by omega⟩
    have c8 : ¬ (8 : Int32) ≤ nI l := nI_ge (a := l) (b := 8) (by omega) (by decide)
    have eb : fX4_bit (nI x) (nI l) = some (nI (x / 2 ^ l % 2)) := by unfold fX4_bit; rw [n_bit (by omega) (by omega)]
    have e8 : ald 8 lineP (nI l) = some (nI (lineN l)) := by rw [ald_nI (by omega) (by decide), (lineN_all l (by omega)).2.1]
    have hpc := pcN_le (C &&& lineN l)
    have u : fX3_areRead_L2 (nI q) (nI x) (nI C) (f + 1) (nI l) = fX3_areRead_B2 (nI q) (nI x) (nI C) (fX3_areRead_L2 (nI q) (nI x) (nI C) f) (nI l) := rfl
    rw [u]
    unfold fX3_areRead_B2 fX3_areRead_j36
    rw [if_neg c8, eb, bd1_s]
    by_cases c1 : x / 2 ^ l % 2 = 1
    · rw [if_pos (by rw [c1]; rfl), e8, bd1_s, n_and, bitc_n (and_lt hC)]
      by_cases c : pcN (C &&& lineN l) < q
      · rw [if_neg (nI_ge c (by omega))]
        exact ⟨fun z => absurd c (z l (by omega) c1), fun _ => rfl⟩
      · rw [if_pos (nI_le (by omega) (by omega)), nI_1]
        exact ih (l + 1) f (by omega) (by omega) (fun j hj hb => by
          by_cases e : j = l
          · subst e; exact c
          · exact hok j (by omega) hb)
    · rw [if_neg (fun z => c1 ((nI_eq1 (by omega)).mp z)), nI_1]
      exact ih (l + 1) f (by omega) (by omega) (fun j hj hb => by
        by_cases e : j = l
        · subst e; exact absurd hb c1
        · exact hok j (by omega) hb)
theorem c_rd {q x C : Nat} (hq : q ≤ 4) (hx : x < 256) (hC : C < 65536) : (rdP q x C → fX3_areRead (nI q) (nI x) (nI C) = some 1) ∧ (¬ rdP q x C → fX3_areRead (nI q) (nI x) (nI C) = some 0) := by
  obtain ⟨h1, h2⟩ := c_rdL hq hx hC 8 0 FU (by omega) (by decide) (fun j hj => absurd hj (Nat.not_lt_zero j))
  unfold fX3_areRead
  refine ⟨fun z => ?_, fun z => ?_⟩
  · have e : fX3_areRead_L2 (nI q) (nI x) (nI C) FU 0 = _ := h1 z
    rw [e, st0_r]
  · have e : fX3_areRead_L2 (nI q) (nI x) (nI C) FU 0 = _ := h2 z
    rw [e, st0_l]
theorem m_rd {t : Nat → Int32} {u : Nat → Nat} {n B x : Nat} (ht : AR t u) (hw : WF u n B) (hx : x < 256) : (rdP (u 0) x (cdV u 0) → fX5_areRead t (nI x) = some 1) ∧ (¬ rdP (u 0) x (cdV u 0) → fX5_areRead t (nI x) = some 0) := by
  have hle := Nat.and_le_left (n := x) (m := liV u ^^^ 4294967295)
  have hi : x &&& (liV u ^^^ 4294967295) = 0 ↔ rdP (u 0) x (cdV u 0) := (sub_iff (by omega)).trans (rd_iff hx)
  unfold fX5_areRead
  rw [m_linesIn ht hw, bd1_s, n_m1, n_xor, n_and]
  refine ⟨fun z => ?_, fun z => ?_⟩
  · rw [if_pos (by rw [hi.mpr z]; rfl)]
  · rw [if_neg (fun y => z (hi.mp ((nI_eq0 (by omega)).mp y)))]
/-- what a row of an answer holds -/
def ansN (k : Nat) (a b c d : Int32) (j : Nat) : Int32 := if j < k then (if j = 0 then a else if j = 1 then b else if j = 2 then c else d) else 0
theorem m_ans_L {r k : Nat} (hr : r < 6) (hk : k ≤ 40) (a b c d : Int32) (rit : Nat → Int32) : ∀ (m j fuel : Nat) (rows : Nat → Int32), (∀ y, rows y = if 40 * r ≤ y ∧ y < 40 * r + j then ansN k a b c d (y - 40 * r) else rit y) → j + m = 40 → m < fuel → ∃ rows', fX5_answers_L10 (nI r) (nI k) a b c d fuel rows (nI j) = some rows' ∧ ∀ y, rows' y = if 40 * r ≤ y ∧ y < 40 * r + 40 then ansN k a b c d (y - 40 * r) else rit y := by
  intro m
  induction m with
  | zero =>
    intro j fuel rows hrow h1 h2
    obtain ⟨f, rfl⟩ : ∃ f, fuel = f + 1 := ⟨fuel - 1, by omega⟩
    have hj : j = 40 := by omega
    subst hj
    refine ⟨rows, ?_, hrow⟩
    show fX5_answers_B10 _ _ _ _ _ _ _ _ _ = _
    unfold fX5_answers_B10
    rw [if_pos (by decide)]
  | succ m ih =>
    intro j fuel rows hrow h1 h2
    obtain ⟨f, rfl⟩ : ∃ f, fuel = f + 1 := ⟨fuel - 1, by omega⟩
    have c40 : ¬ (40 : Int32) ≤ nI j := nI_ge (a := j) (b := 40) (by omega) (by decide)
    obtain ⟨rows', e, hr'⟩ := ih (j + 1) f (upd rows (40 * r + j) (ansN k a b c d j)) (fun y => by
      by_cases ey : y = 40 * r + j
      · subst ey
        rw [upd_s, if_pos (by omega)]
        congr 1
        omega
      · rw [upd_n _ _ ey, hrow y]
        by_cases cc : 40 * r ≤ y ∧ y < 40 * r + j
        · rw [if_pos cc, if_pos (by omega)]
        · rw [if_neg cc, if_neg (by omega)]) (by omega) (by omega)
    refine ⟨rows', ?_, hr'⟩
    have st : ∀ x, (bd1 (ast 240 rows (nI (40 * r + j)) x) fun rows_71 => fX5_answers_L10 (nI r) (nI k) a b c d f rows_71 (nI j + 1)) = fX5_answers_L10 (nI r) (nI k) a b c d f (upd rows (40 * r + j) x) (nI (j + 1)) := by
      intro x
      rw [ast_nI (by omega) (by decide), bd1_s, nI_1]
    show fX5_answers_B10 _ _ _ _ _ _ _ _ _ = _
    unfold fX5_answers_B10 fX5_answers_j71
    rw [if_neg c40, rix, st, st, st, st, st]
    unfold ansN at e
    by_cases ck : j < k
    · rw [if_pos ck] at e
      rw [if_pos (nI_lt ck (by omega))]
      by_cases c0 : j = 0
      · rw [if_pos c0] at e
        rw [if_pos ((nI_eq0 (by omega)).mpr c0)]
        exact e
      rw [if_neg c0] at e
      rw [if_neg (fun z => c0 ((nI_eq0 (by omega)).mp z))]
      by_cases c1 : j = 1
      · rw [if_pos c1] at e
        rw [if_pos ((nI_eq1 (by omega)).mpr c1)]
        exact e
      rw [if_neg c1] at e
      rw [if_neg (fun z => c1 ((nI_eq1 (by omega)).mp z))]
      by_cases c2 : j = 2
      · rw [if_pos c2] at e
        rw [if_pos (by rw [c2]; rfl)]
        exact e
      rw [if_neg c2] at e
      have c2' : ¬ nI j = 2 := fun z => c2 ((nI_eq (b := 2) (by omega) (by decide)).mp z)
      rw [if_neg c2']
      exact e
    · rw [if_neg ck] at e
      rw [if_neg (nI_nlt (by omega) (by omega))]
      exact e
theorem m_ans {r k : Nat} (hr : r < 6) (hk : k ≤ 40) (a b c d : Int32) (rsz rit : Nat → Int32) : ∃ rows', fX5_answers rsz rit (nI r) (nI k) a b c d = some (upd rsz r (nI k), rows') ∧ ∀ y, rows' y = if 40 * r ≤ y ∧ y < 40 * r + 40 then ansN k a b c d (y - 40 * r) else rit y := by
  obtain ⟨rows', e, hr'⟩ := m_ans_L hr hk a b c d rit 40 0 FU rit (fun y => by rw [if_neg (by omega)]) (by omega) (by decide)
  have e : fX5_answers_L10 (nI r) (nI k) a b c d FU rit 0 = _ := e
  refine ⟨rows', ?_, hr'⟩
  unfold fX5_answers
  rw [t6 hr, bd1_s, e, bd1_s]
theorem RW.ans {sizes items rsz rit sizes' items' rit' : Nat → Int32} (h : RW 6 40 (fun _ => True) sizes items rsz rit) {r k : Nat} (hk : k ≤ 40) {a b c d : Int32} (h1 : sizes' r = nI k) (h2 : ∀ r', r' ≠ r → sizes' r' = sizes r') (h3 : ∀ j, j < k → items' (40 * r + j) = ansN k a b c d j) (h4 : ∀ y, (y < 40 * r ∨ 40 * r + 40 ≤ y) → items' y = items y) (h5 : ∀ y, rit' y = if 40 * r ≤ y ∧ y < 40 * r + 40 then ansN k a b c d (y - 40 * r) else rit y) : RW 6 40 (fun _ => True) sizes' items' (upd rsz r (nI k)) rit' := by
  intro r' hr'
  by_cases e : r' = r
  · subst e
    refine Or.inr ⟨k, hk, h1, upd_s _ _ _, fun j hj => ⟨?_, trivial⟩⟩
    rw [h3 j hj, h5, if_pos (by omega)]
    congr 1
    omega
  · rw [h2 r' e, upd_n _ _ e]
    rcases h r' hr' with z | ⟨k2, hk2, z1, z2, hz⟩
    · exact Or.inl z
    · refine Or.inr ⟨k2, hk2, z1, z2, fun j hj => ⟨?_, trivial⟩⟩
      have hs := rw_sep (w := 40) (i := j) e (by omega)
      rw [h4 _ hs, h5, if_neg (by omega)]
      exact (hz j hj).1
section
variable {sizes items rsz rit : Nat → Int32}
theorem c_make0 {r : Nat} (hr : r < 6) : fX2_make 240 6 40 items sizes (nI r) 0 0 = some (items, upd sizes r (nI 0)) := by
  have e : fX2_make 240 6 (nI 40) items sizes (nI r) (nI 0) 0 = _ := s_make (m := 6) (N := 240) (w := 40) (x := 0) (by decide) (by decide) (by decide) hr (n := 0) (by decide) (by decide) (by decide)
  rw [fill0] at e
  exact e
theorem c_app {r k : Nat} (hr : r < 6) (hk : k < 40) (x : Int32) {it sz : Nat → Int32} (h : sz r = nI k) : fX2_append 240 6 40 it sz (nI r) x = some (upd it (40 * r + k) x, upd sz r (nI (k + 1))) := s_append (m := 6) (N := 240) (w := 40) (by decide) (by decide) (by decide) (by decide) hr hk h
/-- two numbers come to a row, on both sides -/
theorem ans2 (hR : RW 6 40 (fun _ => True) sizes items rsz rit) {r : Nat} (hr : r < 6) (a b : Int32) : ∃ rsz' rit', fX5_answers rsz rit (nI r) 2 a b 0 0 = some (rsz', rit') ∧ RW 6 40 (fun _ => True) (upd (upd (upd sizes r (nI 0)) r (nI 1)) r (nI 2)) (upd (upd items (40 * r + 0) a) (40 * r + 1) b) rsz' rit' := by
  obtain ⟨rit', e5, h5⟩ := m_ans hr (k := 2) (by decide) a b 0 0 rsz rit
  refine ⟨upd rsz r (nI 2), rit', e5, ?_⟩
  refine hR.ans (k := 2) (by decide) (upd_s _ _ _) (fun r' e => by rw [upd_n _ _ e, upd_n _ _ e, upd_n _ _ e]) (fun j hj => ?_) (fun y hy => by rw [upd_n _ _ (by omega), upd_n _ _ (by omega)]) h5
  rcases (show j = 0 ∨ j = 1 by omega) with rfl | rfl
  · rw [upd_n _ _ (by omega), upd_s]; rfl
  · rw [upd_s]; rfl
theorem ans4 (hR : RW 6 40 (fun _ => True) sizes items rsz rit) {r : Nat} (hr : r < 6) (a b c d : Int32) : ∃ rsz' rit', fX5_answers rsz rit (nI r) 4 a b c d = some (rsz', rit') ∧ RW 6 40 (fun _ => True) (upd (upd (upd (upd (upd sizes r (nI 0)) r (nI 1)) r (nI 2)) r (nI 3)) r (nI 4)) (upd (upd (upd (upd items (40 * r + 0) a) (40 * r + 1) b) (40 * r + 2) c) (40 * r + 3) d) rsz' rit' := by
  obtain ⟨rit', e5, h5⟩ := m_ans hr (k := 4) (by decide) a b c d rsz rit
  refine ⟨upd rsz r (nI 4), rit', e5, ?_⟩
  refine hR.ans (k := 4) (by decide) (upd_s _ _ _) (fun r' e => by rw [upd_n _ _ e, upd_n _ _ e, upd_n _ _ e, upd_n _ _ e, upd_n _ _ e]) (fun j hj => ?_) (fun y hy => by rw [upd_n _ _ (by omega), upd_n _ _ (by omega), upd_n _ _ (by omega), upd_n _ _ (by omega)]) h5
  rcases (show j = 0 ∨ j = 1 ∨ j = 2 ∨ j = 3 by omega) with rfl | rfl | rfl | rfl
  · rw [upd_n _ _ (by omega), upd_n _ _ (by omega), upd_n _ _ (by omega), upd_s]; rfl
  · rw [upd_n _ _ (by omega), upd_n _ _ (by omega), upd_s]; rfl
  · rw [upd_n _ _ (by omega), upd_s]; rfl
  · rw [upd_s]; rfl
end
/-- what a peel covers at a place, as it lies -/
def caN (v : Nat → Nat) (i p : Nat) : Nat := covN (kdV v i) p (lnV v i) (dnV v i)
theorem caN_lt {v : Nat → Nat} {n B i p : Nat} (hw : WF v n B) (hi : i < n) (hp : p < 16) : caN v i p < 65536 := by
  obtain ⟨b0, -, b2, b3, -⟩ := hw.2.2.2.2.2.2.2 i hi
  exact (cov_ok b0 hp b2 b3).2.2
/-- two peels (perhaps one) lie elsewhere -/
theorem cd_one {v : Nat → Nat} {n B a p : Nat} (hw : WF v n B) (ha : a < n) (hla : lfV v a = 0) : cdV (upN v (6 + 5 * a) p) 0 = (butN v (nI a) (nI a) n ||| caN v a p) &&& (v 4 ^^^ 4294967295) := by
  have hn6 := hw.2.1
  have e0 : ∀ x, x < 5 → upN v (6 + 5 * a) p x = v x := fun x hx => upN_n _ _ (by omega)
  have ek : ∀ j, kdV (upN v (6 + 5 * a) p) j = kdV v j := fun j => by unfold kdV; rw [upN_n _ _ (by omega)]
  have el : ∀ j, lnV (upN v (6 + 5 * a) p) j = lnV v j := fun j => by unfold lnV; rw [upN_n _ _ (by omega)]
  have ed : ∀ j, dnV (upN v (6 + 5 * a) p) j = dnV v j := fun j => by unfold dnV; rw [upN_n _ _ (by omega)]
  have ef : ∀ j, lfV (upN v (6 + 5 * a) p) j = lfV v j := fun j => by unfold lfV; rw [upN_n _ _ (by omega)]
  have ei : ∀ j, isV (upN v (6 + 5 * a) p) j = if j = a then p else isV v j := fun j => by
    unfold isV
    by_cases e : j = a
    · subst e; rw [upN_s, if_pos rfl]
    · rw [upN_n _ _ (by omega), if_neg e]
  have hco : coV (upN v (6 + 5 * a) p) 0 n = butN v (nI a) (nI a) n ||| caN v a p := by
    unfold coV butN
    rw [orN_up (i := a) (g := fun j => if nI j = nI a ∨ nI j = nI a ∨ lfV v j = 1 then 0 else cvV v j) ha]
    · congr 1
      simp only [cvV, ek, el, ed, ei, ef, hla, if_true, Nat.zero_div, Nat.zero_mod, Nat.zero_ne_one, or_self, if_false]
      rfl
    · intro j hj hne
      have hji : ¬ nI j = nI a := fun z => hne ((nI_ii (by omega) (by omega)).mp z)
      simp only [cvV, ek, el, ed, ei, ef, if_neg hne, hji, false_or, Nat.zero_div, Nat.zero_mod, Nat.zero_ne_one, or_false]
    · simp
  unfold cdV
  rw [e0 1 (by decide), e0 4 (by decide), hw.1, hco]
theorem cd_two {v : Nat → Nat} {n B a b p q : Nat} (hw : WF v n B) (ha : a < n) (hb : b < n) (hab : a ≠ b) (hla : lfV v a = 0) (hlb : lfV v b = 0) : cdV (upN (upN v (6 + 5 * a) p) (6 + 5 * b) q) 0 = ((butN v (nI a) (nI b) n ||| caN v a p) ||| caN v b q) &&& (v 4 ^^^ 4294967295) := by
  have hn6 := hw.2.1
  have e0 : ∀ x, x < 5 → upN (upN v (6 + 5 * a) p) (6 + 5 * b) q x = v x := fun x hx => by rw [upN_n _ _ (by omega), upN_n _ _ (by omega)]
  have ek : ∀ j, kdV (upN (upN v (6 + 5 * a) p) (6 + 5 * b) q) j = kdV v j := fun j => by unfold kdV; rw [upN_n _ _ (by omega), upN_n _ _ (by omega)]
  have el : ∀ j, lnV (upN (upN v (6 + 5 * a) p) (6 + 5 * b) q) j = lnV v j := fun j => by unfold lnV; rw [upN_n _ _ (by omega), upN_n _ _ (by omega)]
  have ed : ∀ j, dnV (upN (upN v (6 + 5 * a) p) (6 + 5 * b) q) j = dnV v j := fun j => by unfold dnV; rw [upN_n _ _ (by omega), upN_n _ _ (by omega)]
  have ef : ∀ j, lfV (upN (upN v (6 + 5 * a) p) (6 + 5 * b) q) j = lfV v j := fun j => by unfold lfV; rw [upN_n _ _ (by omega), upN_n _ _ (by omega)]
  have ei : ∀ j, isV (upN (upN v (6 + 5 * a) p) (6 + 5 * b) q) j = if j = b then q else if j = a then p else isV v j := fun j => by
    unfold isV
    by_cases e : j = b
    · subst e; rw [upN_s, if_pos rfl]
    · rw [upN_n _ _ (by omega), if_neg e]
      by_cases e2 : j = a
      · subst e2; rw [upN_s, if_pos rfl]
      · rw [upN_n _ _ (by omega), if_neg e2]
  have hco : coV (upN (upN v (6 + 5 * a) p) (6 + 5 * b) q) 0 n = (butN v (nI a) (nI b) n ||| caN v a p) ||| caN v b q := by
    unfold coV butN
    rw [orN_up (i := b) (g := fun j => if j = b then 0 else if j = a then caN v a p else if lfV v j = 1 then 0 else cvV v j) hb]
    · rw [orN_up (f := fun j => if j = b then 0 else if j = a then caN v a p else if lfV v j = 1 then 0 else cvV v j) (i := a) (g := fun j => if nI j = nI a ∨ nI j = nI b ∨ lfV v j = 1 then 0 else cvV v j) ha]
      · congr 1
        · congr 1
          simp only [if_neg hab, if_true]
        · simp only [cvV, ek, el, ed, ei, ef, hlb, if_true, Nat.zero_div, Nat.zero_mod, Nat.zero_ne_one, or_self, if_false]
          rfl
      · intro j hj hne
        have hja : ¬ nI j = nI a := fun z => hne ((nI_ii (by omega) (by omega)).mp z)
        by_cases e : j = b
        · subst e
          simp
        · have hjb : ¬ nI j = nI b := fun z => e ((nI_ii (by omega) (by omega)).mp z)
          simp only [if_neg e, if_neg hne, hja, hjb, false_or]
      · simp
    · intro j hj hne
      by_cases e : j = a
      · subst e
        simp only [cvV, ek, el, ed, ei, ef, hla, if_neg hne, if_true, Nat.zero_div, Nat.zero_mod, Nat.zero_ne_one, or_self, if_false]
        rfl
      · simp only [cvV, ek, el, ed, ei, ef, if_neg hne, if_neg e, Nat.zero_div, Nat.zero_mod, Nat.zero_ne_one, or_false]
    · simp
  unfold cdV
  rw [e0 1 (by decide), e0 4 (by decide), hw.1, hco]
section
variable {size need lifted licked morning tally : Int32} {kinds places lengths downs covers now : Nat → Int32} {v : Nat → Nat} {n B : Nat}
theorem c_lay1 (hs : SL size need lifted licked morning tally kinds places lengths downs covers v n) (hw : WF v n B) {i : Nat} (hi : i < n) (sc0 : Nat → Int32) : ∀ (m p fuel : Nat) (sc : Nat → Int32), (∀ y, sc y = if 16 * i ≤ y ∧ y < 16 * i + p then nI (caN v i (y - 16 * i)) else sc0 y) → p + m = 16 → m < fuel → ∃ sc', fX4_layOutCovers_L21 size kinds lengths downs (nI i) fuel sc (nI p) = some sc' ∧ ∀ y, sc' y = if 16 * i ≤ y ∧ y < 16 * i + 16 then nI (caN v i (y - 16 * i)) else sc0 y := by
  have hn6 := hw.2.1
  obtain ⟨b0, -, b2, b3, -⟩ := hw.2.2.2.2.2.2.2 i hi
  intro m
  induction m with
  | zero =>
    intro p fuel sc hsc h1 h2
    obtain ⟨f, rfl⟩ : ∃ f, fuel = f + 1 := ⟨fuel - 1, by omega⟩
    have hp : p = 16 := by omega
    subst hp
    refine ⟨sc, ?_, hsc⟩
    show fX4_layOutCovers_B21 _ _ _ _ _ _ _ _ = _
    unfold fX4_layOutCovers_B21
    rw [if_pos (by decide)]
  | succ m ih =>
    intro p fuel sc hsc h1 h2
    obtain ⟨f, rfl⟩ : ∃ f, fuel = f + 1 := ⟨fuel - 1, by omega⟩
    have c16 : ¬ (16 : Int32) ≤ nI p := nI_ge (a := p) (b := 16) (by omega) (by decide)
    have eix : nI i * 16 + nI p = nI (16 * i + p) := by
      show nI i * nI 16 + nI p = _
      rw [nI_mul, nI_add, Nat.mul_comm]
    obtain ⟨sc', e, h'⟩ := ih (p + 1) f (upd sc (16 * i + p) (nI (caN v i p))) (fun y => by
      by_cases ey : y = 16 * i + p
      · subst ey
        rw [upd_s, if_pos (by omega), show 16 * i + p - 16 * i = p by omega]
      · rw [upd_n _ _ ey, hsc y]
        by_cases cc : 16 * i ≤ y ∧ y < 16 * i + p
        · rw [if_pos cc, if_pos (by omega)]
        · rw [if_neg cc, if_neg (by omega)]) (by omega) (by omega)
    refine ⟨sc', ?_, h'⟩
    show fX4_layOutCovers_B21 _ _ _ _ _ _ _ _ = _
    unfold fX4_layOutCovers_B21
    rw [if_neg c16, c_downOf hs hw hi, bd1_s, c_coverAt hs hw hi (by omega) b3, bd1_s, eix, ast_nI (by omega) (by decide), bd1_s, nI_1]
    exact e
theorem c_lay_L (hs : SL size need lifted licked morning tally kinds places lengths downs covers v n) (hw : WF v n B) : ∀ (m i fuel : Nat) (sc : Nat → Int32), (∀ j p, j < i → p < 16 → sc (16 * j + p) = nI (caN v j p)) → i + m = n → m < fuel → ∃ sc', fX4_layOutCovers_L2 size kinds lengths downs fuel sc (nI i) = some sc' ∧ ∀ j p, j < n → p < 16 → sc' (16 * j + p) = nI (caN v j p) := by
  have hn6 := hw.2.1
  intro m
  induction m with
  | zero =>
    intro i fuel sc hsc h1 h2
    obtain ⟨f, rfl⟩ : ∃ f, fuel = f + 1 := ⟨fuel - 1, by omega⟩
    have hi : i = n := by omega
    subst hi
    refine ⟨sc, ?_, hsc⟩
    show fX4_layOutCovers_B2 _ _ _ _ _ _ _ = _
    unfold fX4_layOutCovers_B2
    rw [hs.1, if_pos (nI_le (Nat.le_refl i) (by omega))]
  | succ m ih =>
    intro i fuel sc hsc h1 h2
    obtain ⟨f, rfl⟩ : ∃ f, fuel = f + 1 := ⟨fuel - 1, by omega⟩
    have c6 : ¬ (6 : Int32) ≤ nI i := nI_ge (a := i) (b := 6) (by omega) (by decide)
    have c0 : ¬ size ≤ nI i := by rw [hs.1]; exact nI_ge (by omega) (by omega)
    obtain ⟨sc1, e1, h1'⟩ := c_lay1 hs hw (i := i) (by omega) sc 16 0 FU sc (fun y => by rw [if_neg (by omega)]) (by omega) (by decide)
    have e1 : fX4_layOutCovers_L21 size kinds lengths downs (nI i) FU sc 0 = _ := e1
    obtain ⟨sc', e, h'⟩ := ih (i + 1) f sc1 (fun j p hj hp => by
      rw [h1']
      by_cases ej : j = i
      · subst ej
        rw [if_pos (by omega), show 16 * j + p - 16 * j = p by omega]
      · rw [if_neg (by omega)]
        exact hsc j p (by omega) hp) (by omega) (by omega)
    refine ⟨sc', ?_, h'⟩
    show fX4_layOutCovers_B2 _ _ _ _ _ _ _ = _
    unfold fX4_layOutCovers_B2
    rw [if_neg c0, if_neg c6, e1, bd1_s, nI_1]
    exact e
theorem c_lay (hs : SL size need lifted licked morning tally kinds places lengths downs covers v n) (hw : WF v n B) (sc : Nat → Int32) : ∃ sc', fX4_layOutCovers size kinds lengths downs sc = some sc' ∧ ∀ j p, j < n → p < 16 → sc' (16 * j + p) = nI (caN v j p) := by
  obtain ⟨sc', e, h⟩ := c_lay_L hs hw n 0 FU sc (fun j p hj => absurd hj (Nat.not_lt_zero j)) (by omega) (Nat.lt_of_le_of_lt hw.2.1 (by decide))
  have e : fX4_layOutCovers_L2 size kinds lengths downs FU sc 0 = _ := e
  exact ⟨sc', by unfold fX4_layOutCovers; rw [e, bd1_s], h⟩
theorem sc_at {sc : Nat → Int32} (hsc : ∀ j p, j < n → p < 16 → sc (16 * j + p) = nI (caN v j p)) (hn6 : n ≤ 6) {i p : Nat} (hi : i < n) (hp : p < 16) : ald 96 sc (nI i * 16 + nI p) = some (nI (caN v i p)) := by
  have eix : nI i * 16 + nI p = nI (16 * i + p) := by
    show nI i * nI 16 + nI p = _
    rw [nI_mul, nI_add, Nat.mul_comm]
  rw [eix, ald_nI (by omega) (by decide), hsc i p hi hp]
variable {sizes items rsz rit sc : Nat → Int32}
/-- one peel, its places: both sides -/
theorem f1_L (hs : SL size need lifted licked morning tally kinds places lengths downs covers v n) (hw : WF v n B) (ha : AR now v) (hsc : ∀ j p, j < n → p < 16 → sc (16 * j + p) = nI (caN v j p)) (hR : RW 6 40 (fun _ => True) sizes items rsz rit) {x r : Nat} (hx : x < 256) (hr : r < 6) {i : Nat} (hi : i < n) (hl : lfV v i = 0) : ∀ (m p fuel : Nat) (t : Nat → Int32), p + m = 16 → m < fuel →
    (∃ items' sizes' rsz' rit' t', fX4_foundByOne_L47 need licked sc (nI x) (nI r) (nI i) (nI (butN v (nI i) (nI i) n)) fuel items sizes (nI p) = some (.inl (1, items', sizes')) ∧ fX5_found_L80 now (nI x) (nI r) (nI i) fuel rsz rit t (nI p) = some (.inl (1, rsz', rit', t')) ∧ RW 6 40 (fun _ => True) sizes' items' rsz' rit') ∨
    (∃ t', fX4_foundByOne_L47 need licked sc (nI x) (nI r) (nI i) (nI (butN v (nI i) (nI i) n)) fuel items sizes (nI p) = some (.inr (items, sizes)) ∧ fX5_found_L80 now (nI x) (nI r) (nI i) fuel rsz rit t (nI p) = some (.inr (rsz, rit, t'))) := by
  have hn6 := hw.2.1
  intro m
  induction m with
  | zero =>
    intro p fuel t h1 h2
    obtain ⟨f, rfl⟩ : ∃ f, fuel = f + 1 := ⟨fuel - 1, by omega⟩
    have hp : p = 16 := by omega
    subst hp
    refine Or.inr ⟨t, ?_, ?_⟩
    · show fX4_foundByOne_B47 _ _ _ _ _ _ _ _ _ _ _ = _
      unfold fX4_foundByOne_B47
      rw [if_pos (by decide)]
    · show fX5_found_B80 _ _ _ _ _ _ _ _ _ = _
      unfold fX5_found_B80
      rw [if_pos (by decide)]
  | succ m ih =>
    intro p fuel t h1 h2
    obtain ⟨f, rfl⟩ : ∃ f, fuel = f + 1 := ⟨fuel - 1, by omega⟩
    have hp : p < 16 := by omega
    have c16 : ¬ (16 : Int32) ≤ nI p := nI_ge (a := p) (b := 16) (by omega) (by decide)
    have hwp := upP_WF hw hi hp
    obtain ⟨t1, e1, ht1⟩ := m_tried ha t
    have ht2 := ht1.up (6 + 5 * i) p
    have ed : fX5_isDown now (nI i) = some 1 := by rw [m_isDown ha hw hi, hl]; rfl
    have hcd := cd_one (p := p) hw hi hl
    have hC : (butN v (nI i) (nI i) n ||| caN v i p) &&& (v 4 ^^^ 4294967295) < 65536 := and_lt (Nat.or_lt_two_pow (n := 16) (butN_lt hw _ _) (caN_lt hw hi hp))
    have eC : (nI (butN v (nI i) (nI i) n) ||| nI (caN v i p)) &&& (licked ^^^ (-1)) = nI (cdV (upN v (6 + 5 * i) p) 0) := by rw [hs.2.2.2.1, n_m1, n_or, n_xor, n_and, hcd]
    rw [← hcd] at hC
    obtain ⟨k1, k2⟩ := c_rd (q := v 0) (x := x) hw.2.2.2.2.2.1 hx hC
    obtain ⟨g1, g2⟩ := m_rd ht2 hwp hx
    rw [show upN v (6 + 5 * i) p 0 = v 0 from upN_n _ _ (by omega)] at g1 g2
    have u4 : fX4_foundByOne_L47 need licked sc (nI x) (nI r) (nI i) (nI (butN v (nI i) (nI i) n)) (f + 1) items sizes (nI p) = fX4_foundByOne_B47 need licked sc (nI x) (nI r) (nI i) (nI (butN v (nI i) (nI i) n)) (fX4_foundByOne_L47 need licked sc (nI x) (nI r) (nI i) (nI (butN v (nI i) (nI i) n)) f) items sizes (nI p) := rfl
    have u5 : fX5_found_L80 now (nI x) (nI r) (nI i) (f + 1) rsz rit t (nI p) = fX5_found_B80 now (nI x) (nI r) (nI i) (fX5_found_L80 now (nI x) (nI r) (nI i) f) rsz rit t (nI p) := rfl
    rw [u4, u5]
    unfold fX4_foundByOne_B47 fX5_found_B80
    rw [if_neg c16, if_neg c16, sc_at hsc hn6 hi hp, bd1_s, eC, hs.2.1, ed, bd1_s, if_neg one_ne, e1, bd1_s, ix1, s35 (by omega), bd1_s]
    by_cases c : rdP (v 0) x (cdV (upN v (6 + 5 * i) p) 0)
    · rw [k1 c, g1 c, bd1_s, bd1_s, if_neg one_ne, if_neg one_ne]
      obtain ⟨rsz', rit', q5, hR'⟩ := ans2 hR hr (nI i) (nI p)
      exact Or.inl ⟨_, _, rsz', rit', _, by rw [c_make0 hr, bd2_s, c_app hr (k := 0) (by decide) _ (upd_s _ _ _), bd2_s, c_app hr (k := 1) (by decide) _ (upd_s _ _ _), bd2_s], by rw [q5, bd2_s], hR'⟩
    · rw [k2 c, g2 c, bd1_s, bd1_s, if_pos rfl, if_pos rfl, nI_1]
      rw [hs.2.1] at ih
      exact ih (p + 1) f _ (by omega) (by omega)
end
