/-! ===== pure: rows and texts ===== -/
theorem map_some {α β : Type} {o : Option α} {g : α → β} {q : α} (h : o = some q) : o.map g = some (g q) := by rw [h]; rfl
theorem i5_lt {x : Int32} {k : Nat} (hk : k + 1 < 2 ^ 31) (h : nI (k + 1) ≤ x) : nI k < x := by
  rw [Int32.le_iff_toInt_le, nI_toInt hk] at h
  rw [Int32.lt_iff_toInt_lt, nI_toInt (by omega)]
  omega
theorem row_in : ∀ r, r < 6 → fX4_isRow (nI r) = some 1 ∧ fX5_isRow (nI r) = some 1 := by decide
theorem txt_in : ∀ r, r < 4 → fX4_isText (nI r) = some 1 ∧ fX5_isText (nI r) = some 1 := by decide
theorem row_out {x : Int32} (h : x < 0 ∨ nI 6 ≤ x) : fX4_isRow x = some 0 ∧ fX5_isRow x = some 0 := by
  unfold fX4_isRow fX5_isRow fX4_isIn
  rw [in0_eq]
  rcases h with h | h
  · rw [if_pos h, if_pos h]; exact ⟨rfl, rfl⟩
  · have h5 : (5 : Int32) < x := i5_lt (k := 5) (by decide) h
    have h6 : (6 : Int32) ≤ x := h
    by_cases h0 : x < 0
    · rw [if_pos h0, if_pos h0]; exact ⟨rfl, rfl⟩
    · rw [if_neg h0, if_pos h6, if_neg h0, if_pos h5]; exact ⟨rfl, rfl⟩
theorem txt_out {x : Int32} (h : x < 0 ∨ nI 4 ≤ x) : fX4_isText x = some 0 ∧ fX5_isText x = some 0 := by
  unfold fX4_isText fX5_isText fX4_isIn
  rw [in0_eq]
  rcases h with h | h
  · rw [if_pos h, if_pos h]; exact ⟨rfl, rfl⟩
  · have h5 : (3 : Int32) < x := i5_lt (k := 3) (by decide) h
    have h6 : (4 : Int32) ≤ x := h
    by_cases h0 : x < 0
    · rw [if_pos h0, if_pos h0]; exact ⟨rfl, rfl⟩
    · rw [if_neg h0, if_pos h6, if_neg h0, if_pos h5]; exact ⟨rfl, rfl⟩
/-- a finding, on both sides -/
theorem find_n (F : Nat → Int32) {j : Nat} (h1 : 1 ≤ j) (h5 : j ≤ 5) : fX4_find F (nI j) = some (-3, nI j, upd F j (F j + 1)) ∧ fX5_found0 F (nI j) = some (-3, nI j, upd F j (F j + 1)) := by
  constructor
  · unfold fX4_find
    have c1 : ¬ nI j < (1 : Int32) := nI_nlt (a := j) (b := 1) h1 (by omega)
    have c2 : ¬ (5 : Int32) < nI j := nI_nlt (a := 5) (b := j) h5 (by decide)
    rw [if_neg c1, if_neg c2, a6 (by omega), bd1_s, t6 (by omega), bd1_s]
  · unfold fX5_found0
    rw [a6 (by omega), bd1_s, t6 (by omega), bd1_s]
theorem upd_eq6 {F G : Nat → Int32} (h : ∀ j, j < 6 → F j = G j) {j : Nat} (hj : j < 6) : ∀ i, i < 6 → upd F j (F j + 1) i = upd G j (G j + 1) i := by
  intro i hi
  by_cases e : i = j
  · subst e; rw [upd_s, upd_s, h i hi]
  · rw [upd_n _ _ e, upd_n _ _ e, h i hi]
theorem m1_ne {k : Nat} (h : k < 2 ^ 31) : ¬ nI k = (-1) ∧ ¬ nI k = (-9) := by
  constructor <;> intro q <;> have := congrArg Int32.toInt q <;> rw [nI_toInt h] at this
  · have e : (-1 : Int32).toInt = -1 := by decide
    omega
  · have e : (-9 : Int32).toInt = -9 := by decide
    omega
section
variable {m N w : Nat} {sizes items : Nat → Int32}
theorem s_sizeOf (hm : m < 2 ^ 31) {r : Nat} (hr : r < m) : fX2_sizeOf m sizes (nI r) = some (sizes r) := by
  unfold fX2_sizeOf
  have c2 : ¬ Int32.ofNat m ≤ nI r := nI_ge hr hm
  rw [if_neg (nI_pos (by omega)), if_neg c2, ald_nI hr hm, bd1_s]
theorem s_miss1 (hm : m < 2 ^ 31) {r : Nat} (hr : r < m) (h : sizes r = -1) : fX2_isMissing m sizes (nI r) = some 1 := by
  unfold fX2_isMissing
  rw [s_sizeOf hm hr, bd1_s, if_pos h]
theorem s_miss0 (hm : m < 2 ^ 31) {r k : Nat} (hr : r < m) (hk : k < 2 ^ 31) (h : sizes r = nI k) : fX2_isMissing m sizes (nI r) = some 0 := by
  unfold fX2_isMissing
  rw [s_sizeOf hm hr, bd1_s, if_neg (by rw [h]; exact (m1_ne hk).1)]
theorem s_has1 (hm : m < 2 ^ 31) {r k i : Nat} (hr : r < m) (hk : k < 2 ^ 31) (h : sizes r = nI k) (hi : i < k) : fX2_has m sizes (nI r) (nI i) = some 1 := by
  unfold fX2_has
  have c2 : ¬ Int32.ofNat m ≤ nI r := nI_ge hr hm
  rw [if_neg (nI_pos (by omega)), if_neg c2, if_neg (nI_pos (by omega)), ald_nI hr hm, bd1_s, h, if_neg (nI_ge hi hk)]
theorem s_has0 (hm : m < 2 ^ 31) {r k : Nat} {x : Int32} (hr : r < m) (h : sizes r = nI k) (hx : x < 0 ∨ nI k ≤ x) : fX2_has m sizes (nI r) x = some 0 := by
  unfold fX2_has
  have c2 : ¬ Int32.ofNat m ≤ nI r := nI_ge hr hm
  rw [if_neg (nI_pos (by omega)), if_neg c2]
  rcases hx with hx | hx
  · rw [if_pos hx]
  · split
    · rfl
    · rw [ald_nI hr hm, bd1_s, h, if_pos hx]
theorem s_get (hm : m < 2 ^ 31) (hN : N < 2 ^ 31) (hw : w * m ≤ N) {r k i : Nat} (hr : r < m) (hk : k ≤ w) (h : sizes r = nI k) (hi : i < k) (hkk : k < 2 ^ 31) : fX2_get N m (nI w) items sizes (nI r) (nI i) = some (items (w * r + i)) := by
  have hlt : w * r + i < N := by
    have : w * r + w ≤ w * m := by rw [← Nat.mul_succ]; exact Nat.mul_le_mul_left w hr
    omega
  unfold fX2_get
  rw [s_has1 hm hr hkk h hi, bd1_s, if_neg one_ne, nI_mul, nI_add, Nat.mul_comm r w, ald_nI hlt hN, bd1_s]
theorem s_set (hm : m < 2 ^ 31) (hN : N < 2 ^ 31) (hw : w * m ≤ N) {r k i : Nat} {x : Int32} (hr : r < m) (hk : k ≤ w) (h : sizes r = nI k) (hi : i < k) (hkk : k < 2 ^ 31) : fX2_set N m (nI w) items sizes (nI r) (nI i) x = some (upd items (w * r + i) x) := by
  have hlt : w * r + i < N := by
    have : w * r + w ≤ w * m := by rw [← Nat.mul_succ]; exact Nat.mul_le_mul_left w hr
    omega
  unfold fX2_set
  rw [s_has1 hm hr hkk h hi, bd1_s, if_neg one_ne, nI_mul, nI_add, Nat.mul_comm r w, ast_nI hlt hN, bd1_s]
/-- k places from a on hold x -/
def fillN (f : Nat → Int32) (a k : Nat) (x : Int32) : Nat → Int32 := fun j => if a ≤ j ∧ j < a + k then x else f j
theorem s_make_L (hN : N < 2 ^ 31) {r n : Nat} {x : Int32} (hlt : w * r + n ≤ N) (items0 : Nat → Int32) : ∀ (q i fuel : Nat), i + q = n → q < fuel → fX2_make_L35 N (nI w) (nI r) (nI n) x fuel (fillN items0 (w * r) i x) (nI i) = some (fillN items0 (w * r) n x) := by
  intro q
  induction q with
  | zero =>
    intro i fuel h1 h2
    obtain ⟨f, rfl⟩ : ∃ f, fuel = f + 1 := ⟨fuel - 1, by omega⟩
    have hi : i = n := by omega
    subst hi
    show fX2_make_B35 _ _ _ _ _ _ _ _ = _
    unfold fX2_make_B35
    rw [if_pos (nI_le (Nat.le_refl i) (by omega))]
  | succ q ih =>
    intro i fuel h1 h2
    obtain ⟨f, rfl⟩ : ∃ f, fuel = f + 1 := ⟨fuel - 1, by omega⟩
    show fX2_make_B35 _ _ _ _ _ _ _ _ = _
    unfold fX2_make_B35
    rw [if_neg (nI_ge (by omega) (by omega)), nI_mul, nI_add, Nat.mul_comm r w, ast_nI (by omega) hN, bd1_s, nI_1]
    have e : upd (fillN items0 (w * r) i x) (w * r + i) x = fillN items0 (w * r) (i + 1) x := by
      funext j
      by_cases ej : j = w * r + i
      · subst ej
        rw [upd_s]
        unfold fillN
        rw [if_pos (by omega)]
      · rw [upd_n _ _ ej]
        unfold fillN
        by_cases c : w * r ≤ j ∧ j < w * r + i
        · rw [if_pos c, if_pos (by omega)]
        · rw [if_neg c, if_neg (by omega)]
    rw [e]
    exact ih (i + 1) f (by omega) (by omega)
theorem s_make (hm : m < 2 ^ 31) (hN : N < 2 ^ 31) (hw : w * m ≤ N) {r n : Nat} {x : Int32} (hr : r < m) (hn : n ≤ w) (hn2 : n < 1000) (hw2 : w < 2 ^ 31) : fX2_make N m (nI w) items sizes (nI r) (nI n) x = some (fillN items (w * r) n x, upd sizes r (nI n)) := by
  have hlt : w * r + n ≤ N := by
    have : w * r + w ≤ w * m := by rw [← Nat.mul_succ]; exact Nat.mul_le_mul_left w hr
    omega
  have c2 : ¬ Int32.ofNat m ≤ nI r := nI_ge hr hm
  have hL : fX2_make_L35 N (nI w) (nI r) (nI n) x FU items 0 = some (fillN items (w * r) n x) := by
    have := s_make_L (x := x) hN hlt items n 0 FU (by omega) (Nat.lt_of_lt_of_le hn2 (by decide))
    have e : fillN items (w * r) 0 x = items := by
      funext j
      unfold fillN
      rw [if_neg (by omega)]
    rw [e] at this
    exact this
  unfold fX2_make
  rw [if_neg (nI_pos (by omega)), if_neg c2, if_neg (nI_pos (by omega)), if_neg (nI_nlt hn hw2), ast_nI hr hm, bd1_s, hL, bd1_s]
end
theorem step_asked : Step_asked Rel := fun c d h => ⟨_, _, _, map_some rfl, map_some (by unfold fX5_asked; exact congrArg some h.1.2.1.symm), h⟩
theorem step_upper : Step_upper Rel := fun c d h => ⟨_, _, _, map_some rfl, map_some (by unfold fX5_upper; exact congrArg some h.1.2.2.1.symm), h⟩
theorem step_lower : Step_lower Rel := fun c d h => ⟨_, _, _, map_some rfl, map_some (by unfold fX5_lower; exact congrArg some h.1.2.2.2.1.symm), h⟩
theorem step_finding : Step_finding Rel := fun c d h => ⟨_, _, _, map_some rfl, map_some (by unfold fX5_finding; exact congrArg some h.1.1.symm), h⟩
theorem step_findings : Step_findings Rel := by
  intro c d h x1
  obtain ⟨-, -, -, -, a5⟩ := id h.1
  rcases spl x1 (k := 6) (by decide) with ⟨j, hj, rfl⟩ | hout
  · by_cases h1 : 1 ≤ j
    · have c1 : ¬ nI j < (1 : Int32) := nI_nlt (a := j) (b := 1) h1 (by omega)
      have c2 : nI j ≤ (5 : Int32) := nI_le (a := j) (b := 5) (by omega) (by decide)
      have c3 : ¬ (5 : Int32) < nI j := nI_nlt (a := 5) (b := j) (by omega) (by decide)
      exact ⟨_, _, _, map_some (by unfold fX4_findings; rw [if_neg c1, if_pos c2, a6 hj, bd1_s]), map_some (by unfold fX5_findings; rw [in0_eq, bd1_s, if_neg c1, if_neg c3, if_neg one_ne, a6 hj, bd1_s]; exact congrArg some (a5 j hj).symm), h⟩
    · have hj0 : j = 0 := by omega
      subst hj0
      exact ⟨_, _, _, map_some (by unfold fX4_findings fX4_findings_j10; rw [if_pos (by decide)]), map_some (by unfold fX5_findings; rw [in0_eq, bd1_s, if_pos (show nI 0 < 1 by decide), if_pos rfl]), h⟩
  · have c4 : fX4_findings (cs_findings c) x1 = some (-1) := by
      unfold fX4_findings fX4_findings_j10
      split
      · rfl
      · next q =>
        rcases hout with ho | ho
        · exact absurd (by rw [Int32.lt_iff_toInt_lt] at ho ⊢; have e0 : (0 : Int32).toInt = 0 := by decide
                           have e1 : (1 : Int32).toInt = 1 := by decide
                           omega) q
        · have : (5 : Int32) < x1 := i5_lt (k := 5) (by decide) ho
          rw [if_neg (by rw [Int32.not_le]; exact this)]
    have c5 : fX5_findings (ms_findings d) x1 = some (-1) := by
      unfold fX5_findings
      rw [in0_eq, bd1_s]
      rcases hout with ho | ho
      · have : x1 < 1 := by
          rw [Int32.lt_iff_toInt_lt] at ho ⊢
          have e0 : (0 : Int32).toInt = 0 := by decide
          have e1 : (1 : Int32).toInt = 1 := by decide
          omega
        rw [if_pos this, if_pos rfl]
      · have : (5 : Int32) < x1 := i5_lt (k := 5) (by decide) ho
        split
        · next q => rw [if_pos rfl]
        · first | rw [if_pos rfl] | rw [if_pos this, if_pos rfl]
    exact ⟨_, _, _, map_some c4, map_some c5, h⟩
