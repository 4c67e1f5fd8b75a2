/-! ===== pure: what a slice is, in numbers: v 0 need, 1 how many peels, 2 morning, 3 tally, 4 licked; peel i from 5 + 5 i on: kind, place, length, down, lifted ===== -/
def covN (k p l d : Nat) : Nat := ((fX3_coverBy (nI k) (nI p) (nI l) (nI d)).getD 0).toNatClampNeg
theorem cov_all : ((List.range 6).all fun k => (List.range 16).all fun p => (List.range 4).all fun l => (List.range 2).all fun d => decide (fX3_coverBy (nI k) (nI p) (nI (l + 1)) (nI d) = some (nI (covN k p (l + 1) d))) && decide (fX5_coversOf (nI k) (nI p) (nI (l + 1)) (nI d) = some (nI (covN k p (l + 1) d))) && decide (covN k p (l + 1) d < 65536)) = true := by decide +kernel
theorem cov_ok {k p l d : Nat} (hk : k < 6) (hp : p < 16) (hl : 1 ≤ l ∧ l ≤ 4) (hd : d < 2) : fX3_coverBy (nI k) (nI p) (nI l) (nI d) = some (nI (covN k p l d)) ∧ fX5_coversOf (nI k) (nI p) (nI l) (nI d) = some (nI (covN k p l d)) ∧ covN k p l d < 65536 := by
  obtain ⟨q, rfl⟩ : ∃ q, l = q + 1 := ⟨l - 1, by omega⟩
  have h1 := List.all_eq_true.mp cov_all k (List.mem_range.mpr hk)
  have h2 := List.all_eq_true.mp h1 p (List.mem_range.mpr hp)
  have h3 := List.all_eq_true.mp h2 q (List.mem_range.mpr (by omega))
  have h4 := List.all_eq_true.mp h3 d (List.mem_range.mpr hd)
  simp only [Bool.and_eq_true, decide_eq_true_eq] at h4
  exact ⟨h4.1.1, h4.1.2, h4.2⟩
def upN (v : Nat → Nat) (j a : Nat) : Nat → Nat := fun x => if x = j then a else v x
theorem upN_s (v : Nat → Nat) (j a : Nat) : upN v j a j = a := by simp [upN]
theorem upN_n (v : Nat → Nat) {j x : Nat} (a : Nat) (h : x ≠ j) : upN v j a x = v x := by simp [upN, h]
def kdV (v : Nat → Nat) (i : Nat) : Nat := v (5 + 5 * i)
def isV (v : Nat → Nat) (i : Nat) : Nat := v (6 + 5 * i)
def lnV (v : Nat → Nat) (i : Nat) : Nat := v (7 + 5 * i)
def dnV (v : Nat → Nat) (i : Nat) : Nat := v (8 + 5 * i)
def lfV (v : Nat → Nat) (i : Nat) : Nat := v (9 + 5 * i)
def cvV (v : Nat → Nat) (i : Nat) : Nat := covN (kdV v i) (isV v i) (lnV v i) (dnV v i)
/-- what peels that are down and not among 'but' cover, the first n of them -/
def coV (v : Nat → Nat) (but n : Nat) : Nat := orN (fun i => if lfV v i = 1 ∨ but / 2 ^ i % 2 = 1 then 0 else cvV v i) n
def cdV (v : Nat → Nat) (but : Nat) : Nat := coV v but (v 1) &&& (v 4 ^^^ 4294967295)
def lineN (l : Nat) : Nat := if l < 4 then 15 * 2 ^ (4 * l) else 4369 * 2 ^ (l - 4)
def lnsN (need x : Nat) : Nat := orN (fun l => if pcN (x &&& lineN l) < need then 0 else 2 ^ l) 8
def liV (v : Nat → Nat) : Nat := lnsN (v 0) (cdV v 0)
def fallS (u : Nat → Nat) (k : Nat) : Nat → Nat := if lfV u k = 0 then upN (upN u (6 + 5 * k) ((5 * isV u k + lnV u k + u 2) % 16)) (8 + 5 * k) (if u 2 % 3 = 2 then 1 - dnV u k else dnV u k) else u
def fallK (v : Nat → Nat) : Nat → (Nat → Nat)
  | 0 => v
  | k + 1 => fallS (fallK v k) k
def paV (v : Nat → Nat) : Nat → Nat := upN (upN (fallK v (v 1)) 3 (fallK v (v 1) 3 + pcN (liV (fallK v (v 1))))) 2 (fallK v (v 1) 2 + 1)
/-- numbers as a slice has them; B: no more mornings than this -/
def WF (v : Nat → Nat) (n B : Nat) : Prop := v 1 = n ∧ n ≤ 6 ∧ v 2 ≤ B ∧ v 4 < 65536 ∧ pcN (v 4) ≤ 8 ∧ v 0 ≤ 4 ∧ (0 < n → 1 ≤ v 0) ∧ ∀ i, i < n → kdV v i < 6 ∧ isV v i < 16 ∧ (1 ≤ lnV v i ∧ lnV v i ≤ 4) ∧ dnV v i < 2 ∧ lfV v i < 2
/-- a row of ints holds these numbers -/
def AR (w : Nat → Int32) (v : Nat → Nat) : Prop := ∀ x, x < 35 → w x = nI (v x)
theorem AR.up {w : Nat → Int32} {v : Nat → Nat} (h : AR w v) (j a : Nat) : AR (upd w j (nI a)) (upN v j a) := by
  intro x hx
  by_cases e : x = j
  · subst e; rw [upd_s, upN_s]
  · rw [upd_n _ _ e, upN_n _ _ e, h x hx]
theorem r35 {w : Nat → Int32} {v : Nat → Nat} (h : AR w v) {j : Nat} (hj : j < 35) : ald 35 w (nI j) = some (nI (v j)) := by rw [ald_nI hj (by decide), h j hj]
theorem s35 {w : Nat → Int32} {j : Nat} {x : Int32} (hj : j < 35) : ast 35 w (nI j) x = some (upd w j x) := ast_nI hj (by decide)
theorem ix0 (i : Nat) : (5 : Int32) + 5 * nI i = nI (5 + 5 * i) := by
  show nI 5 + nI 5 * nI i = _
  rw [nI_mul, nI_add]
theorem ix1 (i : Nat) : (5 : Int32) + 5 * nI i + 1 = nI (6 + 5 * i) := by rw [ix0]; show nI _ + nI 1 = _; rw [nI_add]; congr 1; omega
theorem ix2 (i : Nat) : (5 : Int32) + 5 * nI i + 2 = nI (7 + 5 * i) := by rw [ix0]; show nI _ + nI 2 = _; rw [nI_add]; congr 1; omega
theorem ix3 (i : Nat) : (5 : Int32) + 5 * nI i + 3 = nI (8 + 5 * i) := by rw [ix0]; show nI _ + nI 3 = _; rw [nI_add]; congr 1; omega
theorem ix4 (i : Nat) : (5 : Int32) + 5 * nI i + 4 = nI (9 + 5 * i) := by rw [ix0]; show nI _ + nI 4 = _; rw [nI_add]; congr 1; omega
/-- a peel's five places, as the reference reads them -/
theorem p35 {w : Nat → Int32} {v : Nat → Nat} (h : AR w v) {i : Nat} (hi : i < 6) : ald 35 w (5 + 5 * nI i) = some (nI (kdV v i)) ∧ ald 35 w (5 + 5 * nI i + 1) = some (nI (isV v i)) ∧ ald 35 w (5 + 5 * nI i + 2) = some (nI (lnV v i)) ∧ ald 35 w (5 + 5 * nI i + 3) = some (nI (dnV v i)) ∧ ald 35 w (5 + 5 * nI i + 4) = some (nI (lfV v i)) := by
  refine ⟨?_, ?_, ?_, ?_, ?_⟩
  · rw [ix0, r35 h (by omega)]; rfl
  · rw [ix1, r35 h (by omega)]; rfl
  · rw [ix2, r35 h (by omega)]; rfl
  · rw [ix3, r35 h (by omega)]; rfl
  · rw [ix4, r35 h (by omega)]; rfl
theorem r35_0 {w : Nat → Int32} {v : Nat → Nat} (h : AR w v) : ald 35 w 0 = some (nI (v 0)) := r35 h (j := 0) (by decide)
theorem r35_1 {w : Nat → Int32} {v : Nat → Nat} (h : AR w v) : ald 35 w 1 = some (nI (v 1)) := r35 h (j := 1) (by decide)
theorem r35_2 {w : Nat → Int32} {v : Nat → Nat} (h : AR w v) : ald 35 w 2 = some (nI (v 2)) := r35 h (j := 2) (by decide)
theorem r35_3 {w : Nat → Int32} {v : Nat → Nat} (h : AR w v) : ald 35 w 3 = some (nI (v 3)) := r35 h (j := 3) (by decide)
theorem r35_4 {w : Nat → Int32} {v : Nat → Nat} (h : AR w v) : ald 35 w 4 = some (nI (v 4)) := r35 h (j := 4) (by decide)
theorem nI_eq0 {a : Nat} (h : a < 2 ^ 31) : nI a = 0 ↔ a = 0 := nI_eq (b := 0) h (by decide)
theorem nI_eq1 {a : Nat} (h : a < 2 ^ 31) : nI a = 1 ↔ a = 1 := nI_eq (b := 1) h (by decide)
section
variable {w : Nat → Int32} {v : Nat → Nat} {n B : Nat}
theorem cvV_lt (hw : WF v n B) {i : Nat} (hi : i < n) : cvV v i < 65536 := by
  obtain ⟨a, b, c, d, -⟩ := hw.2.2.2.2.2.2.2 i hi
  exact (cov_ok a b c d).2.2
theorem m_coverOf (h : AR w v) (hw : WF v n B) {i : Nat} (hi : i < n) : fX5_coverOf 35 w (nI i) = some (nI (cvV v i)) := by
  obtain ⟨a, b, c, d, e⟩ := hw.2.2.2.2.2.2.2 i hi
  obtain ⟨p0, p1, p2, p3, -⟩ := p35 h (i := i) (by have := hw.2.1; omega)
  unfold fX5_coverOf
  rw [p0, bd1_s, p1, bd1_s, p2, bd1_s, p3, bd1_s, (cov_ok a b c d).2.1, bd1_s]
  rfl
theorem m_has {a k : Nat} (ha : a < 2 ^ 31) (hk : k < 32) : fX5_has (nI a) (nI k) = some (nI (a / 2 ^ k % 2)) := by
  unfold fX5_has
  rw [n_bit ha hk]
  rcases (show a / 2 ^ k % 2 = 0 ∨ a / 2 ^ k % 2 = 1 by omega) with h | h
  · rw [h, if_neg (by decide)]; rfl
  · rw [h, if_pos (by decide)]; rfl
theorem m_coveredBut_L (h : AR w v) (hw : WF v n B) {but : Nat} (hb : but < 2 ^ 31) : ∀ (m k fuel : Nat), k + m = n → m < fuel → fX5_coveredBut_L4 35 w (nI but) fuel (nI (coV v but k)) (nI k) = some (nI (coV v but n)) := by
  have hn6 := hw.2.1
  intro m
  induction m with
  | zero =>
    intro k fuel h1 h2
    obtain ⟨f, rfl⟩ : ∃ f, fuel = f + 1 := ⟨fuel - 1, by omega⟩
    have hk : k = n := by omega
    subst hk
    show fX5_coveredBut_B4 _ _ _ _ _ _ = _
    unfold fX5_coveredBut_B4
    rw [r35_1 h, bd1_s, hw.1, if_pos (nI_le (Nat.le_refl k) (by omega))]
  | succ m ih =>
    intro k fuel h1 h2
    obtain ⟨f, rfl⟩ : ∃ f, fuel = f + 1 := ⟨fuel - 1, by omega⟩
    obtain ⟨-, -, -, -, hlf⟩ := hw.2.2.2.2.2.2.2 k (by omega)
    obtain ⟨-, -, -, -, p4⟩ := p35 h (i := k) (by omega)
    show fX5_coveredBut_B4 _ _ _ _ _ _ = _
    unfold fX5_coveredBut_B4
    have hr : ∀ z, z = (if lfV v k = 1 ∨ but / 2 ^ k % 2 = 1 then 0 else cvV v k) → fX5_coveredBut_L4 35 w (nI but) f (nI (coV v but k) ||| nI z) (nI k + 1) = some (nI (coV v but n)) := by
      intro z hz
      rw [n_or, nI_1]
      have := ih (k + 1) f (by omega) (by omega)
      rw [show coV v but (k + 1) = coV v but k ||| z by rw [hz]; rfl] at this
      exact this
    rw [r35_1 h, bd1_s, hw.1, if_neg (nI_ge (by omega) (by omega)), p4, bd1_s]
    by_cases c1 : lfV v k = 1
    · rw [if_pos ((nI_eq1 (by omega)).mpr c1)]
      exact hr 0 (by rw [if_pos (Or.inl c1)])
    · rw [if_neg (fun q => c1 ((nI_eq1 (by omega)).mp q)), m_has hb (by omega), bd1_s]
      by_cases c2 : but / 2 ^ k % 2 = 1
      · rw [if_neg (fun q => by have := (nI_eq0 (by omega)).mp q; omega)]
        exact hr 0 (by rw [if_pos (Or.inr c2)])
      · rw [if_pos ((nI_eq0 (by omega)).mpr (by omega)), m_coverOf h hw (by omega), bd1_s]
        exact hr (cvV v k) (by rw [if_neg (by omega)])
theorem m_coveredBut (h : AR w v) (hw : WF v n B) {but : Nat} (hb : but < 2 ^ 31) : fX5_coveredBut 35 w (nI but) = some (nI (cdV v but)) := by
  have hn6 := hw.2.1
  unfold fX5_coveredBut
  have hL : fX5_coveredBut_L4 35 w (nI but) FU 0 0 = _ := m_coveredBut_L h hw hb n 0 FU (by omega) (Nat.lt_of_le_of_lt hn6 (by decide))
  rw [hL, bd1_s, r35_4 h, bd1_s, n_m1, n_xor, n_and]
  unfold cdV
  rw [hw.1]
end
