/-! ===== pure: put, mean, copy ===== -/
theorem byte_all : ∀ j, j < 256 → (Int8.toInt32 (Int32.toInt8 (nI j)) = if nI j ≤ 127 then nI j else nI j - 256) ∧ -128 ≤ Int8.toInt32 (Int32.toInt8 (nI j)) ∧ Int8.toInt32 (Int32.toInt8 (nI j)) ≤ 127 := by decide +kernel
theorem byte_n (x : Int32) : (Int8.toInt32 (Int32.toInt8 x) = if x &&& 255 ≤ 127 then x &&& 255 else (x &&& 255) - 256) ∧ byteR (Int8.toInt32 (Int32.toInt8 x)) := by
  obtain ⟨j, hj, e⟩ := pk_andE x (m := 255) 8 (by decide)
  have e8 : (x &&& 255).toInt8 = x.toInt8 := by rw [Int32.toInt8_and, show (255 : Int32).toInt8 = -1 by decide, Int8.and_neg_one]
  obtain ⟨h1, h2, h3⟩ := byte_all j hj
  rw [← e, e8] at h1 h2 h3
  exact ⟨h1, h2, h3⟩
theorem step_put : Step_put Rel := by
  intro c d h x1 x2 x3
  obtain ⟨⟨a1, a2, a3, a4', a5⟩, hB, hC, hD⟩ := id h
  rcases spl x1 (k := 4) (by decide) with ⟨r, hr, rfl⟩ | hout
  · rcases hC r hr with ⟨s1, s2⟩ | ⟨k, hk, s1, s2, hq⟩
    · refine go2 (map_some (by unfold fX4_put; rw [(txt_in r hr).1, bd1_s, if_neg one_ne, s_miss1 (by decide) hr s1, bd1_s, if_neg one_ne, fd4_1, bd3_s])) (map_some (by unfold fX5_put; rw [(txt_in r hr).2, bd1_s, if_neg one_ne, a4 hr, bd1_s, if_pos s2, fd5_1, bd3_s])) (by rfl) ?_
      exact ⟨⟨rfl, a2, a3, a4', upd_eq6 a5 (by decide)⟩, hB, hC, hD⟩
    · have c9 : ¬ nI k = -9 := (m1_ne (by omega)).2
      have v2 : ald 4 (ms_textSize d) (nI r) = some (nI k) := by rw [a4 hr]; exact congrArg some s2
      rcases spl x2 (k := k) (by omega) with ⟨i, hi, rfl⟩ | hx
      · have g4 : fX2_get 240 4 60 (cs_t_items c) (cs_t_sizes c) (nI r) (nI i) = _ := s_get (m := 4) (N := 240) (w := 60) (by decide) (by decide) (by decide) hr hk s1 hi (by omega)
        have t4 : fX2_set 240 4 60 (cs_t_items c) (cs_t_sizes c) (nI r) (nI i) (Int8.toInt32 (Int32.toInt8 x3)) = _ := s_set (m := 4) (N := 240) (w := 60) (by decide) (by decide) (by decide) hr hk s1 hi (by omega)
        obtain ⟨b1, b2⟩ := byte_n x3
        have e5 : ∀ F, fX5_put_j96 (ms_finding d) (ms_texts d) F (ms_texts d (60 * r + i)) (60 * nI r + nI i) (if x3 &&& 255 ≤ 127 then x3 &&& 255 else (x3 &&& 255) - 256) = some (ms_texts d (60 * r + i) + 1000, ms_finding d, upd (ms_texts d) (60 * r + i) (Int8.toInt32 (Int32.toInt8 x3)), F) := by
          intro F
          unfold fX5_put_j96
          rw [tix, ast_nI (by omega) (by decide), bd1_s, b1]
        have e6 : fX5_put (ms_finding d) (ms_textSize d) (ms_texts d) (ms_findings d) (nI r) (nI i) x3 = some (ms_texts d (60 * r + i) + 1000, ms_finding d, upd (ms_texts d) (60 * r + i) (Int8.toInt32 (Int32.toInt8 x3)), ms_findings d) := by
          rw [← e5 (ms_findings d)]
          unfold fX5_put
          rw [(txt_in r hr).2, bd1_s, if_neg one_ne, v2, bd1_s, if_neg c9, bd1_s, in0_1 (by omega) hi, bd1_s, if_neg one_ne]
          have e7 : ald 240 (ms_texts d) (60 * nI r + nI i) = some (ms_texts d (60 * r + i)) := by rw [tix, ald_nI (by omega) (by decide)]
          rw [e7, bd1_s]
          split <;> rfl
        refine go2 (map_some (by unfold fX4_put; rw [(txt_in r hr).1, bd1_s, if_neg one_ne, s_miss0 (by decide) hr (by omega) s1, bd1_s, if_pos rfl, s_has1 (by decide) hr (by omega) s1 hi, bd1_s, if_neg one_ne, g4, bd1_s, t4, bd1_s])) (map_some e6) (by show cs_t_items c (60 * r + i) + 1000 = ms_texts d (60 * r + i) + 1000; rw [(hq i hi).1]) ?_
        exact ⟨⟨a1, a2, a3, a4', a5⟩, hB, RW.set hC (by omega) b2, hD⟩
      · refine go2 (map_some (by unfold fX4_put; rw [(txt_in r hr).1, bd1_s, if_neg one_ne, s_miss0 (by decide) hr (by omega) s1, bd1_s, if_pos rfl, s_has0 (by decide) hr s1 hx, bd1_s, if_pos rfl, fd4_2, bd3_s])) (map_some (by unfold fX5_put; rw [(txt_in r hr).2, bd1_s, if_neg one_ne, v2, bd1_s, if_neg c9, bd1_s, in0_0 (by omega) hx, bd1_s, if_pos rfl, fd5_2, bd3_s])) (by rfl) ?_
        exact ⟨⟨rfl, a2, a3, a4', upd_eq6 a5 (by decide)⟩, hB, hC, hD⟩
  · exact go2 (map_some (by unfold fX4_put; rw [(txt_out hout).1, bd1_s, if_pos rfl])) (map_some (by unfold fX5_put; rw [(txt_out hout).2, bd1_s, if_pos rfl])) (by rfl) h
/-- a sum of longs -/
def sumL (f : Nat → Int32) : Nat → Int64
  | 0 => 0
  | n + 1 => sumL f n + Int32.toInt64 (f n)
theorem sumL_cong {f g : Nat → Int32} : ∀ {n : Nat}, (∀ j, j < n → f j = g j) → sumL f n = sumL g n
  | 0, _ => rfl
  | n + 1, h => by rw [sumL, sumL, sumL_cong (fun j hj => h j (by omega)), h n (by omega)]
theorem c_mean_L {items sizes : Nat → Int32} {r k : Nat} (hr : r < 6) (hk : k ≤ 40) (s1 : sizes r = nI k) : ∀ (m i fuel : Nat), i + m = k → m < fuel → fX4_mean_L50 items sizes (nI r) (nI k) fuel (sumL (fun j => items (40 * r + j)) i) (nI i) = some (sumL (fun j => items (40 * r + j)) k) := by
  intro m
  induction m with
  | zero =>
    intro i fuel h1 h2
    obtain ⟨f, rfl⟩ : ∃ f, fuel = f + 1 := ⟨fuel - 1, by omega⟩
    have hi : i = k := by omega
    subst hi
    show fX4_mean_B50 _ _ _ _ _ _ _ = _
    unfold fX4_mean_B50
    rw [if_pos (nI_le (Nat.le_refl i) (by omega))]
  | succ m ih =>
    intro i fuel h1 h2
    obtain ⟨f, rfl⟩ : ∃ f, fuel = f + 1 := ⟨fuel - 1, by omega⟩
    show fX4_mean_B50 _ _ _ _ _ _ _ = _
    unfold fX4_mean_B50
    have g4 : fX2_get 240 6 40 items sizes (nI r) (nI i) = _ := s_get (m := 6) (N := 240) (w := 40) (by decide) (by decide) (by decide) hr hk s1 (by omega) (by omega)
    rw [if_neg (nI_ge (by omega) (by omega)), g4, bd1_s, nI_1]
    exact ih (i + 1) f (by omega) (by omega)
theorem m_mean_L {rows sizes : Nat → Int32} {r k : Nat} (hr : r < 6) (hk : k ≤ 40) (s1 : sizes r = nI k) : ∀ (m i fuel : Nat), i + m = k → m < fuel → fX5_mean_L46 sizes rows (nI r) fuel (sumL (fun j => rows (40 * r + j)) i) (nI i) = some (sumL (fun j => rows (40 * r + j)) k) := by
  intro m
  induction m with
  | zero =>
    intro i fuel h1 h2
    obtain ⟨f, rfl⟩ : ∃ f, fuel = f + 1 := ⟨fuel - 1, by omega⟩
    have hi : i = k := by omega
    subst hi
    show fX5_mean_B46 _ _ _ _ _ _ = _
    unfold fX5_mean_B46
    rw [a6 hr, bd1_s, s1, if_pos (nI_le (Nat.le_refl i) (by omega))]
  | succ m ih =>
    intro i fuel h1 h2
    obtain ⟨f, rfl⟩ : ∃ f, fuel = f + 1 := ⟨fuel - 1, by omega⟩
    show fX5_mean_B46 _ _ _ _ _ _ = _
    unfold fX5_mean_B46
    rw [a6 hr, bd1_s, s1, if_neg (nI_ge (by omega) (by omega)), rix, ald_nI (by omega) (by decide), bd1_s, nI_1]
    exact ih (i + 1) f (by omega) (by omega)
theorem l_ne {k : Nat} (h0 : 0 < k) (h : k < 2 ^ 31) : ¬ Int32.toInt64 (nI k) = 0 := by
  intro q
  have := congrArg Int64.toInt q
  rw [Int32.toInt_toInt64, nI_toInt h] at this
  have e : (0 : Int64).toInt = 0 := by decide
  omega
theorem step_mean : Step_mean Rel := by
  intro c d h x1
  obtain ⟨⟨a1, a2, a3, a4, a5⟩, hB, hC, hD⟩ := id h
  rcases spl x1 (k := 6) (by decide) with ⟨r, hr, rfl⟩ | hout
  · rcases hB r hr with ⟨s1, s2⟩ | ⟨k, hk, s1, s2, hq⟩
    · refine go2 (map_some (by unfold fX4_mean; rw [(row_in r hr).1, bd1_s, if_neg one_ne, s_miss1 (by decide) hr s1, bd1_s, if_neg one_ne, fd4_1, bd3_s])) (map_some (by unfold fX5_mean; rw [(row_in r hr).2, bd1_s, if_neg one_ne, a6 hr, bd1_s, if_pos s2, fd5_1, bd3_s])) (by rfl) ?_
      exact ⟨⟨rfl, a2, a3, a4, upd_eq6 a5 (by decide)⟩, hB, hC, hD⟩
    · have c9 : ¬ nI k = -9 := (m1_ne (by omega)).2
      have v2 : ald 6 (ms_rowSize d) (nI r) = some (nI k) := by rw [a6 hr]; exact congrArg some s2
      have v1 : fX2_sizeOf 6 (cs_r_sizes c) (nI r) = some (nI k) := by rw [s_sizeOf (by decide) hr]; exact congrArg some s1
      by_cases k0 : k = 0
      · subst k0
        refine go2 (map_some (by unfold fX4_mean; rw [(row_in r hr).1, bd1_s, if_neg one_ne, s_miss0 (by decide) hr (by omega) s1, bd1_s, if_pos rfl, v1, bd1_s, if_pos (show nI 0 = 0 from rfl), fd4_4, bd3_s])) (map_some (by unfold fX5_mean; rw [(row_in r hr).2, bd1_s, if_neg one_ne, v2, bd1_s, if_neg c9, bd1_s, if_pos (show nI 0 = 0 from rfl), fd5_4, bd3_s])) (by rfl) ?_
        exact ⟨⟨rfl, a2, a3, a4, upd_eq6 a5 (by decide)⟩, hB, hC, hD⟩
      · have c0 : ¬ nI k = 0 := nI_ne0 (by omega) (by omega)
        have cl := l_ne (k := k) (by omega) (by omega)
        have e4 : fX4_mean_L50 (cs_r_items c) (cs_r_sizes c) (nI r) (nI k) FU 0 0 = _ := c_mean_L hr hk s1 k 0 FU (by omega) (Nat.lt_of_le_of_lt hk (by decide))
        have e5 : fX5_mean_L46 (ms_rowSize d) (ms_rows d) (nI r) FU 0 0 = _ := m_mean_L hr hk s2 k 0 FU (by omega) (Nat.lt_of_le_of_lt hk (by decide))
        have es : sumL (fun j => cs_r_items c (40 * r + j)) k = sumL (fun j => ms_rows d (40 * r + j)) k := sumL_cong (fun j hj => (hq j hj).1)
        refine go2 (map_some (by unfold fX4_mean fX4_tell; rw [(row_in r hr).1, bd1_s, if_neg one_ne, s_miss0 (by decide) hr (by omega) s1, bd1_s, if_pos rfl, v1, bd1_s, if_neg c0, e4, bd1_s, if_neg cl, bd2_s])) (map_some (by unfold fX5_mean fX5_tells; rw [(row_in r hr).2, bd1_s, if_neg one_ne, v2, bd1_s, if_neg c9, bd1_s, if_neg c0, e5, bd1_s, bd1_s, if_neg cl, bd2_s])) (by rfl) ?_
        exact ⟨⟨a1, by show Int64.toInt32 (_ / _) = Int64.toInt32 (_ / _); rw [es], a3, a4, a5⟩, hB, hC, hD⟩
  · exact go2 (map_some (by unfold fX4_mean; rw [(row_out hout).1, bd1_s, if_pos rfl])) (map_some (by unfold fX5_mean; rw [(row_out hout).2, bd1_s, if_pos rfl])) (by rfl) h
/-! copy: the reference by way of its spare row -/
theorem m_copy1 {rows : Nat → Int32} {r i n : Nat} (hr : r < 6) (hin : i + n ≤ 40) (spare0 : Nat → Int32) : ∀ (m k fuel : Nat) (spare : Nat → Int32), (∀ j, j < k → spare j = rows (40 * r + i + j)) → k + m = n → m < fuel → ∃ sp, fX5_copy_L87 rows (nI r) (nI i) (nI n) fuel spare (nI k) = some sp ∧ ∀ j, j < n → sp j = rows (40 * r + i + j) := by
  intro m
  induction m with
  | zero =>
    intro k fuel spare hs h1 h2
    obtain ⟨f, rfl⟩ : ∃ f, fuel = f + 1 := ⟨fuel - 1, by omega⟩
    have hk : k = n := by omega
    subst hk
    refine ⟨spare, ?_, hs⟩
    show fX5_copy_B87 _ _ _ _ _ _ _ = _
    unfold fX5_copy_B87
    rw [if_pos (nI_le (Nat.le_refl k) (by omega))]
  | succ m ih =>
    intro k fuel spare hs h1 h2
    obtain ⟨f, rfl⟩ : ∃ f, fuel = f + 1 := ⟨fuel - 1, by omega⟩
    obtain ⟨sp, e, hsp⟩ := ih (k + 1) f (upd spare k (rows (40 * r + i + k))) (fun j hj => by
      by_cases ej : j = k
      · subst ej; exact upd_s _ _ _
      · rw [upd_n _ _ ej]; exact hs j (by omega)) (by omega) (by omega)
    refine ⟨sp, ?_, hsp⟩
    show fX5_copy_B87 _ _ _ _ _ _ _ = _
    unfold fX5_copy_B87
    have e1 : (40 : Int32) * nI r + nI i + nI k = nI (40 * r + i + k) := by rw [rix, nI_add]
    rw [if_neg (nI_ge (by omega) (by omega)), e1, ald_nI (by omega) (by decide), bd1_s, ast_nI (by omega) (by decide), bd1_s, nI_1]
    exact e
theorem m_copy2 {spare rows0 : Nat → Int32} {r i n : Nat} (hr : r < 6) (hin : i + n ≤ 40) : ∀ (m k fuel : Nat) (rows : Nat → Int32), (∀ j, rows j = if 40 * r + i ≤ j ∧ j < 40 * r + i + k then spare (j - (40 * r + i)) else rows0 j) → k + m = n → m < fuel → ∃ rw', fX5_copy_L124 spare (nI r) (nI i) (nI n) fuel rows (nI k) = some rw' ∧ ∀ j, rw' j = if 40 * r + i ≤ j ∧ j < 40 * r + i + n then spare (j - (40 * r + i)) else rows0 j := by
  intro m
  induction m with
  | zero =>
    intro k fuel rows hs h1 h2
    obtain ⟨f, rfl⟩ : ∃ f, fuel = f + 1 := ⟨fuel - 1, by omega⟩
    have hk : k = n := by omega
    subst hk
    refine ⟨rows, ?_, hs⟩
    show fX5_copy_B124 _ _ _ _ _ _ _ = _
    unfold fX5_copy_B124
    rw [if_pos (nI_le (Nat.le_refl k) (by omega))]
  | succ m ih =>
    intro k fuel rows hs h1 h2
    obtain ⟨f, rfl⟩ : ∃ f, fuel = f + 1 := ⟨fuel - 1, by omega⟩
    obtain ⟨sp, e, hsp⟩ := ih (k + 1) f (upd rows (40 * r + i + k) (spare k)) (fun j => by
      by_cases ej : j = 40 * r + i + k
      · subst ej
        rw [upd_s, if_pos (by omega)]
        congr 1
        omega
      · rw [upd_n _ _ ej, hs j]
        by_cases c : 40 * r + i ≤ j ∧ j < 40 * r + i + k
        · rw [if_pos c, if_pos (by omega)]
        · rw [if_neg c, if_neg (by omega)]) (by omega) (by omega)
    refine ⟨sp, ?_, hsp⟩
    show fX5_copy_B124 _ _ _ _ _ _ _ = _
    unfold fX5_copy_B124
    have e1 : (40 : Int32) * nI r + nI i + nI k = nI (40 * r + i + k) := by rw [rix, nI_add]
    rw [if_neg (nI_ge (by omega) (by omega)), ald_nI (by omega) (by decide), bd1_s, e1, ast_nI (by omega) (by decide), bd1_s, nI_1]
    exact e
/-- a run is there, on both sides alike -/
theorem run_n {sizes rsz : Nat → Int32} {r k n : Nat} {x : Int32} (hr : r < 6) (hk : k ≤ 40) (s1 : sizes r = nI k) (s2 : rsz r = nI k) (hn : n < 2 ^ 31) : (∃ i, i + n ≤ k ∧ x = nI i ∧ fX2_hasRun 6 sizes (nI r) x (nI n) = some 1 ∧ fX5_hasPart rsz (nI r) x (nI n) = some 1) ∨ (fX2_hasRun 6 sizes (nI r) x (nI n) = some 0 ∧ fX5_hasPart rsz (nI r) x (nI n) = some 0) := by
  have v1 : fX2_sizeOf 6 sizes (nI r) = some (nI k) := by rw [s_sizeOf (by decide) hr, s1]
  have v2 : ald 6 rsz (nI r) = some (nI k) := by rw [a6 hr, s2]
  have cn : ¬ nI n < 0 := nI_pos hn
  have tk : (nI k).toInt = k := nI_toInt (by omega)
  have tn : (nI n).toInt = n := nI_toInt hn
  unfold fX2_hasRun fX5_hasPart
  rw [v1, v2, bd1_s, bd1_s, bd1_s, if_neg cn, in0_eq, bd1_s]
  by_cases c0 : x < 0
  · rw [if_pos c0, if_pos c0, if_pos rfl]
    exact Or.inr ⟨rfl, rfl⟩
  obtain ⟨i, hi, rfl⟩ := nI_of c0
  have ti : (nI i).toInt = i := nI_toInt hi
  rw [if_neg c0, if_neg c0]
  have d1 : (nI k - nI n).toInt = (k : Int) - n := by
    rw [Int32.toInt_sub, tk, tn]
    exact Int.bmod_eq_of_le (by omega) (by omega)
  have d2 : (nI k - nI i).toInt = (k : Int) - i := by
    rw [Int32.toInt_sub, tk, ti]
    exact Int.bmod_eq_of_le (by omega) (by omega)
  by_cases h : i + n ≤ k
  · refine Or.inl ⟨i, h, rfl, ?_, ?_⟩
    · rw [if_neg]
      rw [Int32.lt_iff_toInt_lt, d1, ti]
      omega
    · have c1 : ¬ nI k < nI i := nI_nlt (by omega) (by omega)
      rw [if_neg c1, if_neg one_ne, if_neg]
      rw [Int32.lt_iff_toInt_lt, d2, tn]
      omega
  · refine Or.inr ⟨?_, ?_⟩
    · rw [if_pos]
      rw [Int32.lt_iff_toInt_lt, d1, ti]
      omega
    · by_cases c1 : nI k < nI i
      · rw [if_pos c1, if_pos rfl]
      · rw [if_neg c1, if_neg one_ne, if_pos]
        rw [Int32.lt_iff_toInt_lt, d2, tn]
        omega
