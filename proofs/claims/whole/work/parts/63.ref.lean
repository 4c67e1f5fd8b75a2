/-! ===== pure: the reference's lines and mornings ===== -/
theorem lineN_all : ∀ l, l < 8 → fX5_lineOf (nI l) = some (nI (lineN l)) ∧ lineP l = nI (lineN l) ∧ lineN l < 65536 := by decide +kernel
theorem pow_lt : ∀ l, l < 8 → 2 ^ l < 256 := by decide
section
variable {w : Nat → Int32} {v : Nat → Nat} {n B : Nat}
theorem coV_lt (hw : WF v n B) (but : Nat) {k : Nat} (hk : k ≤ n) : coV v but k < 65536 := by
  refine orN_lt (k := 16) (fun j hj => ?_)
  show (if _ then 0 else cvV v j) < _
  split
  · decide
  · exact cvV_lt hw (by omega)
theorem cdV_lt (hw : WF v n B) (but : Nat) : cdV v but < 65536 := by
  have h1 := coV_lt hw but (Nat.le_refl n)
  have h2 := Nat.and_le_left (n := coV v but (v 1)) (m := v 4 ^^^ 4294967295)
  rw [← hw.1] at h1
  unfold cdV
  omega
theorem lnsN_lt (need x : Nat) : lnsN need x < 256 := by
  refine orN_lt (k := 8) (fun j hj => ?_)
  show (if _ then 0 else 2 ^ j) < _
  split
  · decide
  · exact pow_lt j hj
theorem and_lt {x y c : Nat} (h : x < c) : x &&& y < c := Nat.lt_of_le_of_lt Nat.and_le_left h
theorem m_linesOf_L (h : AR w v) (hw : WF v n B) {x : Nat} (hx : x < 65536) : ∀ (m k fuel : Nat), k + m = 8 → m < fuel → fX5_linesOf_L4 35 w (nI x) fuel (nI (orN (fun l => if pcN (x &&& lineN l) < v 0 then 0 else 2 ^ l) k)) (nI k) = some (nI (lnsN (v 0) x)) := by
  intro m
  induction m with
  | zero =>
    intro k fuel h1 h2
    obtain ⟨f, rfl⟩ : ∃ f, fuel = f + 1 := ⟨fuel - 1, by omega⟩
    have hk : k = 8 := by omega
    subst hk
    show fX5_linesOf_B4 _ _ _ _ _ _ = _
    unfold fX5_linesOf_B4
    exact if_pos (nI_le (Nat.le_refl 8) (by decide))
  | succ m ih =>
    intro k fuel h1 h2
    obtain ⟨f, rfl⟩ : ∃ f, fuel = f + 1 := ⟨fuel - 1, by omega⟩
    show fX5_linesOf_B4 _ _ _ _ _ _ = _
    unfold fX5_linesOf_B4
    have c1 : ¬ (8 : Int32) ≤ nI k := nI_ge (a := k) (b := 8) (by omega) (by decide)
    have hv0 : v 0 ≤ 4 := hw.2.2.2.2.2.1
    have hpc := pcN_le (x &&& lineN k)
    have e1 : fX5_ones (nI (x &&& lineN k)) = some (nI (pcN (x &&& lineN k))) := ones_n (by have := and_lt (y := lineN k) hx; omega)
    have hr : ∀ z, z = (if pcN (x &&& lineN k) < v 0 then 0 else 2 ^ k) → fX5_linesOf_L4 35 w (nI x) f (nI (orN (fun l => if pcN (x &&& lineN l) < v 0 then 0 else 2 ^ l) k) ||| nI z) (nI k + 1) = some (nI (lnsN (v 0) x)) := by
      intro z hz
      rw [n_or, nI_1]
      have := ih (k + 1) f (by omega) (by omega)
      rw [show orN (fun l => if pcN (x &&& lineN l) < v 0 then 0 else 2 ^ l) (k + 1) = orN (fun l => if pcN (x &&& lineN l) < v 0 then 0 else 2 ^ l) k ||| z by rw [hz]; rfl] at this
      exact this
    rw [if_neg c1, (lineN_all k (by omega)).1, bd1_s, n_and, e1, bd1_s, r35_0 h, bd1_s]
    by_cases c : pcN (x &&& lineN k) < v 0
    · rw [if_pos (nI_lt c (by omega))]
      exact hr 0 (by rw [if_pos c])
    · rw [if_neg (nI_nlt (by omega) (by omega))]
      have e2 : (1 : Int32) <<< (nI k &&& 31) = nI (2 ^ k) := by
        have := n_shl (a := 1) (k := k) (by omega) (by have := pow_lt k (by omega); omega)
        rw [Nat.one_mul] at this
        exact this
      rw [e2]
      exact hr (2 ^ k) (by rw [if_neg c])
theorem m_linesOf (h : AR w v) (hw : WF v n B) {x : Nat} (hx : x < 65536) : fX5_linesOf 35 w (nI x) = some (nI (lnsN (v 0) x)) := by
  unfold fX5_linesOf
  have hL : fX5_linesOf_L4 35 w (nI x) FU 0 0 = _ := m_linesOf_L h hw hx 8 0 FU rfl (by decide)
  rw [hL, bd1_s]
theorem m_linesIn (h : AR w v) (hw : WF v n B) : fX5_linesIn 35 w = some (nI (liV v)) := by
  unfold fX5_linesIn
  have h1 : fX5_coveredBut 35 w 0 = _ := m_coveredBut h hw (but := 0) (by decide)
  rw [h1, bd1_s, m_linesOf h hw (cdV_lt hw 0), bd1_s]
  rfl
/-- a fall keeps what a slice is -/
theorem fallS_ne {u : Nat → Nat} {k x : Nat} (h1 : x ≠ 6 + 5 * k) (h2 : x ≠ 8 + 5 * k) : fallS u k x = u x := by
  unfold fallS
  split
  · rw [upN_n _ _ h2, upN_n _ _ h1]
  · rfl
theorem fallS_WF {u : Nat → Nat} (hw : WF u n B) {k : Nat} (hk : k < n) : WF (fallS u k) n B := by
  obtain ⟨h1, h2, h3, h4, h5, h6, h7, h8⟩ := hw
  have e0 : ∀ x, x < 5 → fallS u k x = u x := fun x hx => fallS_ne (by omega) (by omega)
  refine ⟨by rw [e0 1 (by decide)]; exact h1, h2, by rw [e0 2 (by decide)]; exact h3, by rw [e0 4 (by decide)]; exact h4, by rw [e0 4 (by decide)]; exact h5, by rw [e0 0 (by decide)]; exact h6, by rw [e0 0 (by decide)]; exact h7, ?_⟩
  intro i hi
  obtain ⟨a, b, c, d, e⟩ := h8 i hi
  by_cases ek : i = k
  · subst ek
    refine ⟨?_, ?_, ?_, ?_, ?_⟩
    · show fallS u i (5 + 5 * i) < 6
      rw [fallS_ne (by omega) (by omega)]; exact a
    · show fallS u i (6 + 5 * i) < 16
      unfold fallS
      split
      · rw [upN_n _ _ (by omega), upN_s]; omega
      · exact b
    · show 1 ≤ fallS u i (7 + 5 * i) ∧ fallS u i (7 + 5 * i) ≤ 4
      rw [fallS_ne (by omega) (by omega)]; exact c
    · show fallS u i (8 + 5 * i) < 2
      unfold fallS
      split
      · rw [upN_s]; split <;> omega
      · exact d
    · show fallS u i (9 + 5 * i) < 2
      rw [fallS_ne (by omega) (by omega)]; exact e
  · refine ⟨?_, ?_, ?_, ?_, ?_⟩
    · show fallS u k (5 + 5 * i) < 6
      rw [fallS_ne (by omega) (by omega)]; exact a
    · show fallS u k (6 + 5 * i) < 16
      rw [fallS_ne (by omega) (by omega)]; exact b
    · show 1 ≤ fallS u k (7 + 5 * i) ∧ fallS u k (7 + 5 * i) ≤ 4
      rw [fallS_ne (by omega) (by omega)]; exact c
    · show fallS u k (8 + 5 * i) < 2
      rw [fallS_ne (by omega) (by omega)]; exact d
    · show fallS u k (9 + 5 * i) < 2
      rw [fallS_ne (by omega) (by omega)]; exact e
theorem fallK_WF (hw : WF v n B) : ∀ k, k ≤ n → WF (fallK v k) n B
  | 0, _ => hw
  | k + 1, h => fallS_WF (fallK_WF hw k (by omega)) (by omega)
/-- one peel falls, in the reference -/
theorem m_fall1 {u : Nat → Nat} (h : AR w u) (hw : WF u n B) (hB : B < 2 ^ 20) {k : Nat} (hk : k < n) (rec : (Nat → Int32) → Int32 → Option (Nat → Int32)) : ∃ w', AR w' (fallS u k) ∧ fX5_passes_B2 35 rec w (nI k) = rec w' (nI (k + 1)) := by
  obtain ⟨h1, h2, h3, h4, h5, h6, h7, h8⟩ := id hw
  obtain ⟨a, b, c, d, e⟩ := h8 k hk
  obtain ⟨p0, p1, p2, p3, p4⟩ := p35 h (i := k) (by omega)
  unfold fX5_passes_B2
  rw [r35_1 h, bd1_s, h1, if_neg (nI_ge hk (by omega)), p4, bd1_s]
  by_cases cl : lfV u k = 0
  · rw [if_pos ((nI_eq0 (by omega)).mpr cl)]
    have hft : fX5_fallsTo 35 w (nI k) = some (nI ((5 * isV u k + lnV u k + u 2) % 16)) := by
      unfold fX5_fallsTo
      rw [p1, bd1_s, p2, bd1_s, r35_2 h, bd1_s]
      have e1 : (5 : Int32) * nI (isV u k) = nI (5 * isV u k) := nI_mul 5 _
      rw [e1, nI_add, nI_add]
      exact congrArg some (pk_rem (d := 16) (by omega) (by decide) (by decide))
    have hu1 : AR (upd w (6 + 5 * k) (nI ((5 * isV u k + lnV u k + u 2) % 16))) (upN u (6 + 5 * k) ((5 * isV u k + lnV u k + u 2) % 16)) := h.up _ _
    have hd1 : ald 35 (upd w (6 + 5 * k) (nI ((5 * isV u k + lnV u k + u 2) % 16))) (5 + 5 * nI k + 3) = some (nI (dnV u k)) := by
      rw [ix3, r35 hu1 (by omega), upN_n _ _ (by omega)]; rfl
    have hm1 : ald 35 (upd w (6 + 5 * k) (nI ((5 * isV u k + lnV u k + u 2) % 16))) 2 = some (nI (u 2)) := by
      rw [r35_2 hu1, upN_n _ _ (by omega)]
    have hend : ∀ z, z = (if u 2 % 3 = 2 then 1 - dnV u k else dnV u k) → fX5_passes_j61 rec 35 (upd w (6 + 5 * k) (nI ((5 * isV u k + lnV u k + u 2) % 16))) (nI k) (5 + 5 * nI k + 3) (nI z) = rec (upd (upd w (6 + 5 * k) (nI ((5 * isV u k + lnV u k + u 2) % 16))) (8 + 5 * k) (nI z)) (nI (k + 1)) := by
      intro z _
      unfold fX5_passes_j61 fX5_passes_j62
      rw [ix3, s35 (by omega), bd1_s, nI_1]
    refine ⟨upd (upd w (6 + 5 * k) (nI ((5 * isV u k + lnV u k + u 2) % 16))) (8 + 5 * k) (nI (if u 2 % 3 = 2 then 1 - dnV u k else dnV u k)), ?_, ?_⟩
    · unfold fallS
      rw [if_pos cl]
      exact hu1.up _ _
    · rw [hft, bd1_s, ix1, s35 (by omega), bd1_s, hm1, bd1_s]
      have e3 : nI (u 2) - nI (u 2) / 3 * 3 = nI (u 2 % 3) := pk_rem (d := 3) (by omega) (by decide) (by decide)
      rw [e3]
      by_cases c3 : u 2 % 3 = 2
      · rw [if_pos (by rw [c3]; rfl), hd1, bd1_s]
        have e4 : (1 : Int32) - nI (dnV u k) = nI (1 - dnV u k) := nI_sub (a := 1) (by omega)
        rw [e4, hend _ (by rw [if_pos c3]), if_pos c3]
      · have c4 : ¬ nI (u 2 % 3) = 2 := fun q => c3 ((nI_eq (b := 2) (by omega) (by decide)).mp q)
        rw [if_neg c4, hd1, bd1_s, hend _ (by rw [if_neg c3]), if_neg c3]
  · rw [if_neg (fun q => cl ((nI_eq0 (by omega)).mp q))]
    refine ⟨w, ?_, ?_⟩
    · unfold fallS
      rw [if_neg cl]
      exact h
    · unfold fX5_passes_j62
      rw [nI_1]
theorem m_passes_L (hw : WF v n B) (hB : B < 2 ^ 20) : ∀ (m k fuel : Nat) (w : Nat → Int32), AR w (fallK v k) → k + m = n → m < fuel → ∃ w', AR w' (fallK v n) ∧ fX5_passes_L2 35 fuel w (nI k) = some w' := by
  have hn6 := hw.2.1
  intro m
  induction m with
  | zero =>
    intro k fuel w h h1 h2
    obtain ⟨f, rfl⟩ : ∃ f, fuel = f + 1 := ⟨fuel - 1, by omega⟩
    have hk : k = n := by omega
    subst hk
    refine ⟨w, h, ?_⟩
    show fX5_passes_B2 _ _ _ _ = _
    unfold fX5_passes_B2
    rw [r35_1 h, bd1_s, (fallK_WF hw k (by omega)).1, if_pos (nI_le (Nat.le_refl k) (by omega))]
  | succ m ih =>
    intro k fuel w h h1 h2
    obtain ⟨f, rfl⟩ : ∃ f, fuel = f + 1 := ⟨fuel - 1, by omega⟩
    obtain ⟨w1, hw1, e1⟩ := m_fall1 h (fallK_WF hw k (by omega)) hB (k := k) (by omega) (fX5_passes_L2 35 f)
    obtain ⟨w2, hw2, e2⟩ := ih (k + 1) f w1 hw1 (by omega) (by omega)
    refine ⟨w2, hw2, ?_⟩
    show fX5_passes_B2 _ _ _ _ = _
    rw [e1, e2]
theorem paV_WF (hw : WF v n B) : WF (paV v) n (B + 1) := by
  obtain ⟨h1, h2, h3, h4, h5, h6, h7, h8⟩ := fallK_WF hw n (Nat.le_refl n)
  have hv1 := hw.1
  have e : ∀ x, x ≠ 2 → x ≠ 3 → paV v x = fallK v n x := fun x a b => by unfold paV; rw [upN_n _ _ a, upN_n _ _ b, hv1]
  have e2 : paV v 2 = fallK v n 2 + 1 := by unfold paV; rw [upN_s, hv1]
  refine ⟨by rw [e 1 (by decide) (by decide)]; exact h1, h2, by rw [e2]; omega, by rw [e 4 (by decide) (by decide)]; exact h4, by rw [e 4 (by decide) (by decide)]; exact h5, by rw [e 0 (by decide) (by decide)]; exact h6, by rw [e 0 (by decide) (by decide)]; exact h7, ?_⟩
  intro i hi
  obtain ⟨a, b, c, d, f⟩ := h8 i hi
  refine ⟨?_, ?_, ?_, ?_, ?_⟩
  · show paV v (5 + 5 * i) < 6
    rw [e _ (by omega) (by omega)]; exact a
  · show paV v (6 + 5 * i) < 16
    rw [e _ (by omega) (by omega)]; exact b
  · show 1 ≤ paV v (7 + 5 * i) ∧ paV v (7 + 5 * i) ≤ 4
    rw [e _ (by omega) (by omega)]; exact c
  · show paV v (8 + 5 * i) < 2
    rw [e _ (by omega) (by omega)]; exact d
  · show paV v (9 + 5 * i) < 2
    rw [e _ (by omega) (by omega)]; exact f
theorem m_passes (h : AR w v) (hw : WF v n B) (hB : B < 2 ^ 20) : ∃ w', AR w' (paV v) ∧ fX5_passes 35 w = some (nI (liV (fallK v n)), w') := by
  have hn6 := hw.2.1
  obtain ⟨w1, hw1, e1⟩ := m_passes_L hw hB n 0 FU w h (by omega) (Nat.lt_of_le_of_lt hn6 (by decide))
  have hwf := fallK_WF hw n (Nat.le_refl n)
  have e1 : fX5_passes_L2 35 FU w 0 = some w1 := e1
  have hli : liV (fallK v n) < 256 := lnsN_lt _ _
  have s3 : ∀ x, ast 35 w1 3 x = some (upd w1 3 x) := fun x => s35 (j := 3) (by decide)
  have hu := hw1.up 3 (fallK v n 3 + pcN (liV (fallK v n)))
  have s2 : ∀ x, ast 35 (upd w1 3 (nI (fallK v n 3 + pcN (liV (fallK v n))))) 2 x = some (upd (upd w1 3 (nI (fallK v n 3 + pcN (liV (fallK v n))))) 2 x) := fun x => s35 (j := 2) (by decide)
  refine ⟨upd (upd w1 3 (nI (fallK v n 3 + pcN (liV (fallK v n))))) 2 (nI (fallK v n 2 + 1)), ?_, ?_⟩
  · have := hu.up 2 (fallK v n 2 + 1)
    unfold paV
    rw [hw.1]
    exact this
  · unfold fX5_passes
    rw [e1, bd1_s, m_linesIn hw1 hwf, bd1_s, r35_3 hw1, bd1_s, ones_n (by omega), bd1_s, nI_add, s3, bd1_s, r35_2 hu, bd1_s, upN_n _ _ (by decide), nI_1, s2, bd1_s]
end
