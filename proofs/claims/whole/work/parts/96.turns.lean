/-! ===== pure: by turns: the reference ===== -/
/-- a move at turn k: 0 none, else peel m - 1 changes, if it lies so -/
def mvN (n k S m : Nat) : Option Nat := if m = 0 then some S else if n < m then none else if S / 2 ^ (m - 1) % 2 = k % 2 then some (S ^^^ 2 ^ (m - 1)) else none
/-- the lifted peels behind k moves, told by the figures of c -/
def stN (n L : Nat) : Nat → Nat → Option Nat
  | 0, _ => some L
  | k + 1, c => (stN n L k (c / 7)).bind (fun S => mvN n k S (c % 7))
theorem st_s {n L k c : Nat} : stN n L (k + 1) c = (stN n L k (c / 7)).bind (fun S => mvN n k S (c % 7)) := rfl
theorem d7 (c m : Nat) : c / 7 / 7 ^ m = c / 7 ^ (m + 1) := by rw [Nat.div_div_eq_div_mul, Nat.pow_succ, Nat.mul_comm]
theorem d7' (c m : Nat) : c / 7 ^ m / 7 = c / 7 ^ (m + 1) := by rw [Nat.div_div_eq_div_mul, Nat.pow_succ]
theorem st_none {n L k : Nat} : ∀ (m c : Nat), stN n L k (c / 7 ^ m) = none → stN n L (k + m) c = none
  | 0, c, h => by
    rw [Nat.pow_zero, Nat.div_one] at h
    exact h
  | m + 1, c, h => by
    rw [← d7] at h
    rw [show k + (m + 1) = k + m + 1 by omega, st_s, st_none m (c / 7) h]
    rfl
def vaN (n L : Nat) (w : Nat → Nat) (r j c : Nat) : Int32 := match stN n L j c with
  | none => -9
  | some S => nI (hrN n w r S)
theorem va_n {n L r j c : Nat} {w : Nat → Nat} (h : stN n L j c = none) : vaN n L w r j c = -9 := by unfold vaN; rw [h]
theorem va_s {n L r j c S : Nat} {w : Nat → Nat} (h : stN n L j c = some S) : vaN n L w r j c = nI (hrN n w r S) := by unfold vaN; rw [h]
theorem lt_xor (v : Nat → Nat) (S : Nat) {i x : Nat} (h : x ≠ 9 + 5 * i) : ltV v (S ^^^ 2 ^ i) x = ltV v S x := by
  unfold ltV
  by_cases c : 5 ≤ x ∧ x % 5 = 4
  · rw [if_pos c, if_pos c, bit_xor, if_neg (by omega)]
  · rw [if_neg c, if_neg c]
theorem lt_self {v : Nat → Nat} {n B : Nat} (hw : WF v n B) : ∀ x, x < 5 + 5 * n → v x = ltV v (lfN v n) x := by
  intro x hx
  unfold ltV
  by_cases c : 5 ≤ x ∧ x % 5 = 4
  · rw [if_pos c, lfN_bit (fun i hi => (hw.2.2.2.2.2.2.2 i hi).2.2.2.2) _ (by omega)]
    unfold lfV
    congr 1
    omega
  · rw [if_neg c]
theorem WF.cong {u w : Nat → Nat} {n B : Nat} (hw : WF w n B) (h : ∀ x, x < 5 + 5 * n → u x = w x) : WF u n B := by
  obtain ⟨h1, h2, h3, h4, h5, h6, h7, h8⟩ := hw
  refine ⟨by rw [h 1 (by omega)]; exact h1, h2, by rw [h 2 (by omega)]; exact h3, by rw [h 4 (by omega)]; exact h4, by rw [h 4 (by omega)]; exact h5, by rw [h 0 (by omega)]; exact h6, by rw [h 0 (by omega)]; exact h7, fun i hi => ?_⟩
  have q0 : kdV u i = kdV w i := h _ (by omega)
  have q1 : isV u i = isV w i := h _ (by omega)
  have q2 : lnV u i = lnV w i := h _ (by omega)
  have q3 : dnV u i = dnV w i := h _ (by omega)
  have q4 : lfV u i = lfV w i := h _ (by omega)
  rw [q0, q1, q2, q3, q4]
  exact h8 i hi
theorem m_left_L {k code : Nat} (hc : code < 2 ^ 31) (hk : k < 1000) : ∀ (m j fuel : Nat), m ≤ j → j < 1000 → j = k + m → m < fuel → ∀ c, c ≤ code → fX5_comes_L30 (nI k) fuel (nI c) (nI j) = some (nI (c / 7 ^ m)) := by
  intro m
  induction m with
  | zero =>
    intro j fuel h0 h1 h2 h3 c hcc
    obtain ⟨g, rfl⟩ : ∃ f, fuel = f + 1 := ⟨fuel - 1, by omega⟩
    show fX5_comes_B30 _ _ _ _ = _
    unfold fX5_comes_B30
    rw [if_pos (nI_le (by omega) (by omega)), Nat.pow_zero, Nat.div_one]
  | succ m ih =>
    intro j fuel h0 h1 h2 h3 c hcc
    obtain ⟨g, rfl⟩ : ∃ f, fuel = f + 1 := ⟨fuel - 1, by omega⟩
    obtain ⟨i, rfl⟩ : ∃ i, j = i + 1 := ⟨j - 1, by omega⟩
    have e7 : nI c / 7 = nI (c / 7) := pk_div (d := 7) (by omega) (by decide) (by decide)
    have hd := Nat.div_le_self c 7
    show fX5_comes_B30 _ _ _ _ = _
    unfold fX5_comes_B30
    rw [if_neg (nI_ge (by omega) (by omega)), e7, pk_m1, ih i g (by omega) (by omega) (by omega) (by omega) (c / 7) (by omega), d7]
section
variable {now : Nat → Int32} {v : Nat → Nat} {n B L : Nat}
theorem m_comes_L (ha0 : AR now v) (hw : WF v n B) {T code : Nat} (hT : T ≤ 4) (hc : code < 2401) : ∀ (m k fuel : Nat) (t : Nat → Int32) (u : Nat → Nat) (S : Nat), AR t u → (∀ x, x < 5 + 5 * n → u x = ltV v S x) → stN n L k (code / 7 ^ m) = some S → k + m = T → m < fuel →
    (stN n L T code = none ∧ ∃ t', fX5_comes_L17 now (nI code) (nI T) fuel t (nI k) = some (.inl (-9, t'))) ∨ (∃ S' t' u', stN n L T code = some S' ∧ fX5_comes_L17 now (nI code) (nI T) fuel t (nI k) = some (.inr t') ∧ AR t' u' ∧ ∀ x, x < 5 + 5 * n → u' x = ltV v S' x) := by
  have hn6 := hw.2.1
  intro m
  induction m with
  | zero =>
    intro k fuel t u S ht hu hst h1 h2
    obtain ⟨g, rfl⟩ : ∃ f, fuel = f + 1 := ⟨fuel - 1, by omega⟩
    have hk : k = T := by omega
    subst hk
    rw [Nat.pow_zero, Nat.div_one] at hst
    refine Or.inr ⟨S, t, u, hst, ?_, ht, hu⟩
    show fX5_comes_B17 _ _ _ _ _ _ = _
    unfold fX5_comes_B17
    rw [if_pos (nI_le (Nat.le_refl k) (by omega))]
  | succ m ih =>
    intro k fuel t u S ht hu hst h1 h2
    obtain ⟨g, rfl⟩ : ∃ f, fuel = f + 1 := ⟨fuel - 1, by omega⟩
    have hst1 : stN n L (k + 1) (code / 7 ^ m) = mvN n k S (code / 7 ^ m % 7) := by
      rw [st_s, d7', hst]
      rfl
    have hle := Nat.div_le_self code (7 ^ m)
    have hd7 : code / 7 ^ m % 7 < 7 := Nat.mod_lt _ (by decide)
    have eT : nI T - 1 = nI (k + m) := by rw [← h1, show k + (m + 1) = k + m + 1 by omega]; exact nI_pred _
    have el : fX5_comes_L30 (nI k) FU (nI code) (nI T - 1) = some (nI (code / 7 ^ m)) := by
      rw [eT]
      exact m_left_L (code := code) (by omega) (by omega) m (k + m) FU (by omega) (by omega) rfl (Nat.lt_of_le_of_lt (show m ≤ 4 by omega) (by decide)) code (Nat.le_refl _)
    have ed : nI (code / 7 ^ m) - nI (code / 7 ^ m) / 7 * 7 = nI (code / 7 ^ m % 7) := pk_rem (d := 7) (by omega) (by decide) (by decide)
    have e2 : nI k - nI k / 2 * 2 = nI (k % 2) := pk_rem (d := 2) (by omega) (by decide) (by decide)
    have u5 : fX5_comes_L17 now (nI code) (nI T) (g + 1) t (nI k) = fX5_comes_B17 now (nI code) (nI T) (fX5_comes_L17 now (nI code) (nI T) g) t (nI k) := rfl
    have hbad : mvN n k S (code / 7 ^ m % 7) = none → stN n L T code = none := by
      intro hm
      have := st_none (n := n) (L := L) (k := k + 1) m code (by rw [hst1]; exact hm)
      rw [show k + 1 + m = T by omega] at this
      exact this
    rw [u5]
    unfold fX5_comes_B17
    rw [if_neg (nI_ge (by omega) (by omega)), el, bd1_s, r35_1 ha0, bd1_s, hw.1, ed]
    generalize hdg : code / 7 ^ m % 7 = d at hst1 hd7 hbad
    by_cases d0 : d = 0
    · have c1 : ¬ nI n ≤ nI d - 1 := by
        rw [d0, Int32.not_le, Int32.lt_iff_toInt_lt, nI_toInt (by omega)]
        have : (nI 0 - 1 : Int32).toInt = -1 := by decide
        omega
      have c2 : nI d - 1 < 0 := by rw [d0]; decide
      rw [if_neg c1, if_pos c2]
      unfold fX5_comes_j96 fX5_comes_j119
      rw [if_pos c2, nI_1]
      have hst2 : stN n L (k + 1) (code / 7 ^ m) = some S := by
        rw [hst1]
        unfold mvN
        rw [if_pos d0]
      exact ih (k + 1) g t u S ht hu hst2 (by omega) (by omega)
    obtain ⟨i, rfl⟩ : ∃ i, d = i + 1 := ⟨d - 1, by omega⟩
    rw [nI_pred]
    by_cases cn : n ≤ i
    · have hm : mvN n k S (i + 1) = none := by
        unfold mvN
        rw [if_neg (by omega), if_pos (by omega)]
      rw [if_pos (nI_le cn (by omega))]
      exact Or.inl ⟨hbad hm, t, rfl⟩
    have hi : i < n := by omega
    obtain ⟨-, -, -, -, p4⟩ := p35 ht (i := i) (by omega)
    have hlf : lfV u i = S / 2 ^ i % 2 := (hu _ (by omega)).trans (lt_f v S i)
    have hb : S / 2 ^ i % 2 < 2 := Nat.mod_lt _ (by decide)
    have hk2 : k % 2 < 2 := Nat.mod_lt _ (by decide)
    rw [if_neg (nI_ge hi (by omega)), if_neg (nI_pos (by omega)), p4, bd1_s, e2, hlf]
    by_cases cb : S / 2 ^ i % 2 = k % 2
    · have hm : mvN n k S (i + 1) = some (S ^^^ 2 ^ i) := by
        unfold mvN
        rw [if_neg (by omega), if_neg (by omega), show i + 1 - 1 = i by omega, if_pos cb]
      have e1 : (1 : Int32) - nI (k % 2) = nI (1 - k % 2) := nI_sub (a := 1) (by omega)
      rw [if_pos (by rw [cb])]
      unfold fX5_comes_j96 fX5_comes_j119
      rw [if_neg (nI_pos (by omega)), e2, e1, ix4, s35 (by omega), bd1_s, nI_1]
      refine ih (k + 1) g _ (upN u (9 + 5 * i) (1 - k % 2)) (S ^^^ 2 ^ i) (ht.up _ _) (fun x hx => ?_) (by rw [hst1]; exact hm) (by omega) (by omega)
      by_cases ex : x = 9 + 5 * i
      · subst ex
        rw [upN_s]
        have := lt_f v (S ^^^ 2 ^ i) i
        unfold lfV at this
        rw [this, bit_xor, if_pos rfl, cb]
      · rw [upN_n _ _ ex, hu x hx, lt_xor v S ex]
    · have hm : mvN n k S (i + 1) = none := by
        unfold mvN
        rw [if_neg (by omega), if_neg (by omega), show i + 1 - 1 = i by omega, if_neg cb]
      rw [if_neg (nI_le4 (by omega) (by omega) cb)]
      exact Or.inl ⟨hbad hm, t, rfl⟩
theorem m_comes (ha : AR now v) (hw : WF v n B) (hB : B < 2 ^ 20) {T code : Nat} (hT : T ≤ 4) (hc : code < 2401) (t : Nat → Int32) : ∃ t', fX5_comes now t (nI code) (nI T) = some (vaN n (lfN v n) (w0N v n) 0 T code, t') := by
  obtain ⟨t1, e1, ht1⟩ := m_tried ha t
  rcases m_comes_L (L := lfN v n) ha hw hT hc T 0 FU t1 v (lfN v n) ht1 (lt_self hw) rfl (by omega) (Nat.lt_of_le_of_lt hT (by decide)) with ⟨hn, t', e⟩ | ⟨S, t', u, hS, e, hu, hE⟩
  · have e : fX5_comes_L17 now (nI code) (nI T) FU t1 0 = _ := e
    exact ⟨t', by unfold fX5_comes; rw [e1, bd1_s, e, st1_l, va_n hn]⟩
  · have e : fX5_comes_L17 now (nI code) (nI T) FU t1 0 = _ := e
    have hwu : WF u n B := (lt_WF S hw).cong hE
    obtain ⟨t2, -, e2⟩ := m_passes hu hwu hB
    have hlt : liV (fallK u n) < 256 := lnsN_lt _ _
    have efl := fl_ref hwu hE
    refine ⟨t2, ?_⟩
    unfold fX5_comes
    rw [e1, bd1_s, e, st1_r, e2, bd2_s, ones_n (by omega), bd1_s, va_s hS, efl]
    rfl
theorem m_fill_L (ha : AR now v) (hw : WF v n B) (hB : B < 2 ^ 20) {N C : Nat} (hN : N ≤ 2) (hC : C ≤ 2401) : ∀ (m c fuel : Nat) (t wo : Nat → Int32), (∀ x, x < c → wo x = vaN n (lfN v n) (w0N v n) 0 (2 * N) x) → c + m = C → m < fuel → ∃ t' wo', fX5_duel_L45 now (nI N) (nI C) fuel t wo (nI c) = some (t', wo') ∧ ∀ x, x < C → wo' x = vaN n (lfN v n) (w0N v n) 0 (2 * N) x := by
  intro m
  induction m with
  | zero =>
    intro c fuel t wo h1 h2 h3
    obtain ⟨g, rfl⟩ : ∃ f, fuel = f + 1 := ⟨fuel - 1, by omega⟩
    have hc : c = C := by omega
    subst hc
    refine ⟨t, wo, ?_, h1⟩
    show fX5_duel_B45 _ _ _ _ _ _ _ = _
    unfold fX5_duel_B45
    rw [if_pos (nI_le (Nat.le_refl c) (by omega))]
  | succ m ih =>
    intro c fuel t wo h1 h2 h3
    obtain ⟨g, rfl⟩ : ∃ f, fuel = f + 1 := ⟨fuel - 1, by omega⟩
    have e2 : (2 : Int32) * nI N = nI (2 * N) := nI_mul 2 N
    obtain ⟨t1, e1⟩ := m_comes ha hw hB (T := 2 * N) (code := c) (by omega) (by omega) t
    obtain ⟨t', wo', q1, q2⟩ := ih (c + 1) g t1 (upd wo c (vaN n (lfN v n) (w0N v n) 0 (2 * N) c)) (fun x hx => by
      by_cases e : x = c
      · subst e; rw [upd_s]
      · rw [upd_n _ _ e]; exact h1 x (by omega)) (by omega) (by omega)
    refine ⟨t', wo', ?_, q2⟩
    show fX5_duel_B45 _ _ _ _ _ _ _ = _
    unfold fX5_duel_B45
    rw [if_neg (nI_ge (by omega) (by omega)), e2, e1, bd2_s, ast_nI (by omega) (by decide), bd1_s, nI_1]
    exact q1
end
section
variable {n L : Nat} {w : Nat → Nat} {wo : Nat → Int32}
theorem st_m {j c m : Nat} (hm : m < 7) : stN n L (j + 1) (7 * c + m) = (stN n L j c).bind (fun S => mvN n j S m) := by
  rw [st_s, show (7 * c + m) / 7 = c by omega, show (7 * c + m) % 7 = m by omega]
theorem bk_none {j c : Nat} (hc : 7 * c + 7 ≤ 2401) (h : ∀ m, m < 7 → wo (7 * c + m) = -9) : ∀ (q m fuel : Nat), m + q = 7 → q < fuel → fX5_duel_L109 wo (nI j) (nI c) fuel (-9) (nI m) = some (-9) := by
  intro q
  induction q with
  | zero =>
    intro m fuel h1 h2
    obtain ⟨g, rfl⟩ : ∃ f, fuel = f + 1 := ⟨fuel - 1, by omega⟩
    have hm : m = 7 := by omega
    subst hm
    show fX5_duel_B109 _ _ _ _ _ _ = _
    unfold fX5_duel_B109
    rw [if_pos (by decide)]
  | succ q ih =>
    intro m fuel h1 h2
    obtain ⟨g, rfl⟩ : ∃ f, fuel = f + 1 := ⟨fuel - 1, by omega⟩
    have c7 : ¬ (7 : Int32) ≤ nI m := nI_ge (b := 7) (by omega) (by decide)
    have eix : (7 : Int32) * nI c + nI m = nI (7 * c + m) := by
      show nI 7 * nI c + nI m = _
      rw [nI_mul, nI_add]
    show fX5_duel_B109 _ _ _ _ _ _ = _
    unfold fX5_duel_B109 fX5_duel_j166 fX5_duel_j167 fX5_duel_j181
    rw [if_neg c7, eix, ald_nI (by omega) (by decide), bd1_s, h m (by omega), if_pos rfl, if_pos rfl, nI_1]
    exact ih (m + 1) g (by omega) (by omega)
/-- one turn back, told for one code -/
theorem bk_some {r j c S : Nat} (hn6 : n ≤ 6) (hw : ∀ x, w x ≤ 16) (hj : j < 100) (hpar : (r + 1) % 2 = j % 2) (hc : 7 * c + 7 ≤ 2401) (hS : stN n L j c = some S) (h : ∀ m, m < 7 → wo (7 * c + m) = vaN n L w r (j + 1) (7 * c + m)) : ∀ (q i fuel : Nat), i + q = 6 → q < fuel →
    fX5_duel_L109 wo (nI j) (nI c) fuel (nI (if r % 2 = 0 then dF (hrN n w r) S (if i ≤ n then i else n) else bF (hrN n w r) S (if i ≤ n then i else n))) (nI (i + 1)) = some (nI (hrN n w (r + 1) S)) := by
  have hle := hr_le (n := n) hw r
  have e2 : nI j - nI j / 2 * 2 = nI (j % 2) := pk_rem (d := 2) (by omega) (by decide) (by decide)
  intro q
  induction q with
  | zero =>
    intro i fuel h1 h2
    obtain ⟨g, rfl⟩ : ∃ f, fuel = f + 1 := ⟨fuel - 1, by omega⟩
    have hi : i = 6 := by omega
    subst hi
    have e6 : (if 6 ≤ n then 6 else n) = n := by
      split <;> omega
    show fX5_duel_B109 _ _ _ _ _ _ = _
    unfold fX5_duel_B109
    rw [if_pos (by decide), e6]
    by_cases c0 : r % 2 = 0
    · rw [if_pos c0, hr_d c0]
    · rw [if_neg c0, hr_b c0]
  | succ q ih =>
    intro i fuel h1 h2
    obtain ⟨g, rfl⟩ : ∃ f, fuel = f + 1 := ⟨fuel - 1, by omega⟩
    have hi := ih (i + 1) g (by omega) (by omega)
    have c7 : ¬ (7 : Int32) ≤ nI (i + 1) := nI_ge (b := 7) (by omega) (by decide)
    have eix : (7 : Int32) * nI c + nI (i + 1) = nI (7 * c + (i + 1)) := by
      show nI 7 * nI c + nI (i + 1) = _
      rw [nI_mul, nI_add]
    have hv := h (i + 1) (by omega)
    have hst := st_m (n := n) (L := L) (j := j) (c := c) (m := i + 1) (by omega)
    rw [hS] at hst
    have hst : stN n L (j + 1) (7 * c + (i + 1)) = mvN n j S (i + 1) := hst
    have hb : S / 2 ^ i % 2 < 2 := Nat.mod_lt _ (by decide)
    have hk2 : j % 2 < 2 := Nat.mod_lt _ (by decide)
    have hd := dF_le hle S (if i ≤ n then i else n)
    have hbb := bF_le hle S (if i ≤ n then i else n)
    have hz := hle (S ^^^ 2 ^ i)
    show fX5_duel_B109 _ _ _ _ _ _ = _
    unfold fX5_duel_B109 fX5_duel_j166 fX5_duel_j162 fX5_duel_j167 fX5_duel_j181
    rw [if_neg c7, eix, ald_nI (by omega) (by decide), bd1_s, e2, nI_1, if_pos rfl, if_neg one_ne, hv]
    by_cases cn : n ≤ i
    · have hm : mvN n j S (i + 1) = none := by unfold mvN; rw [if_neg (by omega), if_pos (by omega)]
      rw [va_n (hst.trans hm), if_pos rfl]
      have e1 : (if i ≤ n then i else n) = n := by split <;> omega
      have e3 : (if i + 1 ≤ n then i + 1 else n) = n := by split <;> omega
      rw [e3] at hi
      rw [e1]
      exact hi
    have e1 : (if i ≤ n then i else n) = i := if_pos (by omega)
    have e3 : (if i + 1 ≤ n then i + 1 else n) = i + 1 := if_pos (by omega)
    rw [e1] at hd hbb ⊢
    rw [e3] at hi
    by_cases cb : S / 2 ^ i % 2 = j % 2
    · have hm : mvN n j S (i + 1) = some (S ^^^ 2 ^ i) := by unfold mvN; rw [if_neg (by omega), if_neg (by omega), show i + 1 - 1 = i by omega, if_pos cb]
      have n9 : ¬ nI (hrN n w r (S ^^^ 2 ^ i)) = -9 := (m1_ne (by omega)).2
      rw [va_s (hst.trans hm), if_neg n9]
      by_cases c0 : r % 2 = 0
      · rw [if_pos c0] at hi ⊢
        have hj1 : j % 2 = 1 := by omega
        rw [if_pos (by rw [hj1]; rfl)]
        rw [dF, if_pos (by omega)] at hi
        by_cases cl : hrN n w r (S ^^^ 2 ^ i) ≤ dF (hrN n w r) S i
        · rw [if_pos (nI_le cl (by omega))]
          by_cases cm : dF (hrN n w r) S i ≤ hrN n w r (S ^^^ 2 ^ i)
          · rw [if_pos cm, show hrN n w r (S ^^^ 2 ^ i) = dF (hrN n w r) S i by omega] at hi
            exact hi
          · rw [if_neg cm] at hi
            exact hi
        · rw [if_neg (nI_ge (by omega) (by omega))]
          rw [if_pos (by omega)] at hi
          exact hi
      · rw [if_neg c0] at hi ⊢
        have hj0 : j % 2 = 0 := by omega
        rw [if_neg (by rw [hj0]; decide)]
        rw [bF, if_neg (by omega)] at hi
        by_cases cl : bF (hrN n w r) S i ≤ hrN n w r (S ^^^ 2 ^ i)
        · rw [if_pos (nI_le cl (by omega))]
          rw [if_neg (by omega)] at hi
          exact hi
        · rw [if_neg (nI_ge (by omega) (by omega))]
          rw [if_pos (by omega)] at hi
          exact hi
    · have hm : mvN n j S (i + 1) = none := by unfold mvN; rw [if_neg (by omega), if_neg (by omega), show i + 1 - 1 = i by omega, if_neg cb]
      rw [va_n (hst.trans hm), if_pos rfl]
      by_cases c0 : r % 2 = 0
      · rw [if_pos c0] at hi ⊢
        rw [dF, if_neg (by omega)] at hi
        exact hi
      · rw [if_neg c0] at hi ⊢
        rw [bF, if_pos (by omega)] at hi
        exact hi
theorem bk_1 {r j c : Nat} (hn6 : n ≤ 6) (hw : ∀ x, w x ≤ 16) (hj : j < 100) (hpar : (r + 1) % 2 = j % 2) (hc : 7 * c + 7 ≤ 2401) (h : ∀ m, m < 7 → wo (7 * c + m) = vaN n L w r (j + 1) (7 * c + m)) : fX5_duel_L109 wo (nI j) (nI c) FU (wo (7 * c)) 1 = some (vaN n L w (r + 1) j c) := by
  have h0 := h 0 (by decide)
  have h0 : wo (7 * c) = vaN n L w r (j + 1) (7 * c + 0) := h0
  have hst := st_m (n := n) (L := L) (j := j) (c := c) (m := 0) (by decide)
  cases hS : stN n L j c with
  | none =>
    have hall : ∀ m, m < 7 → wo (7 * c + m) = -9 := fun m hm => by
      rw [h m hm]
      refine va_n ?_
      rw [st_m hm, hS]
      rfl
    rw [va_n hS, show wo (7 * c) = -9 from hall 0 (by decide)]
    exact bk_none hc hall 6 1 FU (by omega) (by decide)
  | some S =>
    have hst0 : stN n L (j + 1) (7 * c + 0) = some S := by
      rw [hst, hS]
      rfl
    rw [va_s hS, h0, va_s hst0]
    have := bk_some hn6 hw hj hpar hc hS h 6 0 FU (by omega) (by decide)
    have ez : (if r % 2 = 0 then dF (hrN n w r) S (if 0 ≤ n then 0 else n) else bF (hrN n w r) S (if 0 ≤ n then 0 else n)) = hrN n w r S := by
      rw [if_pos (Nat.zero_le n)]
      split <;> rfl
    rw [ez] at this
    exact this
theorem bk_L {r j C : Nat} (hn6 : n ≤ 6) (hw : ∀ x, w x ≤ 16) (hj : j < 100) (hpar : (r + 1) % 2 = j % 2) (hC : 7 * C ≤ 2401) : ∀ (m c fuel : Nat) (wo : Nat → Int32), (∀ x, x < c → wo x = vaN n L w (r + 1) j x) → (∀ x, c ≤ x → x < 7 * C → wo x = vaN n L w r (j + 1) x) → c + m = C → m < fuel → ∃ wo', fX5_duel_L88 (nI C) (nI j) fuel wo (nI c) = some wo' ∧ ∀ x, x < C → wo' x = vaN n L w (r + 1) j x := by
  intro m
  induction m with
  | zero =>
    intro c fuel wo h1 h2 h3 h4
    obtain ⟨g, rfl⟩ : ∃ f, fuel = f + 1 := ⟨fuel - 1, by omega⟩
    have hc : c = C := by omega
    subst hc
    refine ⟨wo, ?_, h1⟩
    show fX5_duel_B88 _ _ _ _ _ = _
    unfold fX5_duel_B88
    rw [if_pos (nI_le (Nat.le_refl c) (by omega))]
  | succ m ih =>
    intro c fuel wo h1 h2 h3 h4
    obtain ⟨g, rfl⟩ : ∃ f, fuel = f + 1 := ⟨fuel - 1, by omega⟩
    have e7 : (7 : Int32) * nI c = nI (7 * c) := nI_mul 7 c
    have eb := bk_1 (wo := wo) (L := L) (c := c) hn6 hw hj hpar (by omega) (fun m hm => h2 _ (by omega) (by omega))
    obtain ⟨wo', q1, q2⟩ := ih (c + 1) g (upd wo c (vaN n L w (r + 1) j c)) (fun x hx => by
      by_cases e : x = c
      · subst e; rw [upd_s]
      · rw [upd_n _ _ e]; exact h1 x (by omega)) (fun x hx hxC => by rw [upd_n _ _ (by omega)]; exact h2 x (by omega) hxC) (by omega) (by omega)
    refine ⟨wo', ?_, q2⟩
    show fX5_duel_B88 _ _ _ _ _ = _
    unfold fX5_duel_B88
    rw [if_neg (nI_ge (by omega) (by omega)), e7, ald_nI (by omega) (by decide), bd1_s, eb, bd1_s, ast_nI (by omega) (by decide), bd1_s, nI_1]
    exact q1
theorem p7 {j : Nat} (h : j ≤ 4) : 7 ^ j ≤ 2401 := Nat.pow_le_pow_right (n := 7) (by decide) h
theorem bk_all {T : Nat} (hn6 : n ≤ 6) (hw : ∀ x, w x ≤ 16) (hT : T ≤ 4) (hT2 : T % 2 = 0) : ∀ (j r fuel : Nat) (wo : Nat → Int32), j + r = T → (∀ x, x < 7 ^ j → wo x = vaN n L w r j x) → j < fuel → ∃ wo', fX5_duel_L76 fuel wo (nI (7 ^ j)) (nI j - 1) = some wo' ∧ wo' 0 = vaN n L w T 0 0 := by
  intro j
  induction j with
  | zero =>
    intro r fuel wo h1 h2 h3
    obtain ⟨g, rfl⟩ : ∃ f, fuel = f + 1 := ⟨fuel - 1, by omega⟩
    refine ⟨wo, ?_, ?_⟩
    · show fX5_duel_B76 _ _ _ _ = _
      unfold fX5_duel_B76
      rw [if_pos (by decide)]
    · rw [h2 0 (by decide), show r = T by omega]
  | succ j ih =>
    intro r fuel wo h1 h2 h3
    obtain ⟨g, rfl⟩ : ∃ f, fuel = f + 1 := ⟨fuel - 1, by omega⟩
    have h7 := p7 (j := j + 1) (by omega)
    have h7' : 7 ^ (j + 1) = 7 * 7 ^ j := by rw [Nat.pow_succ, Nat.mul_comm]
    have e7 : nI (7 ^ (j + 1)) / 7 = nI (7 ^ j) := by
      have := pk_div (a := 7 ^ (j + 1)) (d := 7) (by omega) (by decide) (by decide)
      rw [h7', Nat.mul_div_cancel_left _ (by decide), ← h7'] at this
      exact this
    obtain ⟨wo1, q1, q2⟩ := bk_L (L := L) (r := r) (j := j) (C := 7 ^ j) hn6 hw (by omega) (by omega) (by omega) (7 ^ j) 0 FU wo (fun x hx => absurd hx (Nat.not_lt_zero x)) (fun x _ hx => h2 x (by omega)) (by omega) (Nat.lt_of_le_of_lt (p7 (j := j) (by omega)) (by decide))
    have q1 : fX5_duel_L88 (nI (7 ^ j)) (nI j) FU wo 0 = _ := q1
    obtain ⟨wo', p1, p2⟩ := ih (r + 1) g wo1 (by omega) q2 (by omega)
    refine ⟨wo', ?_, p2⟩
    show fX5_duel_B76 _ _ _ _ = _
    unfold fX5_duel_B76
    rw [nI_pred, if_neg (nI_pos (by omega)), e7, q1, bd1_s, ← Int32.sub_eq_add_neg]
    exact p1
theorem m_codes_L {N : Nat} (hN : N ≤ 2) : ∀ (m k fuel : Nat), k + m = 2 * N → m < fuel → fX5_duel_L25 (nI N) fuel (nI (7 ^ k)) (nI k) = some (nI (7 ^ (2 * N))) := by
  have e2 : (2 : Int32) * nI N = nI (2 * N) := nI_mul 2 N
  intro m
  induction m with
  | zero =>
    intro k fuel h1 h2
    obtain ⟨g, rfl⟩ : ∃ f, fuel = f + 1 := ⟨fuel - 1, by omega⟩
    have hk : k = 2 * N := by omega
    subst hk
    show fX5_duel_B25 _ _ _ _ = _
    unfold fX5_duel_B25
    rw [e2, if_pos (nI_le (Nat.le_refl _) (by omega))]
  | succ m ih =>
    intro k fuel h1 h2
    obtain ⟨g, rfl⟩ : ∃ f, fuel = f + 1 := ⟨fuel - 1, by omega⟩
    have e7 : nI (7 ^ k) * 7 = nI (7 ^ (k + 1)) := by
      rw [Nat.pow_succ]
      exact nI_mul (7 ^ k) 7
    show fX5_duel_B25 _ _ _ _ = _
    unfold fX5_duel_B25
    rw [e2, if_neg (nI_ge (by omega) (by omega)), e7, nI_1]
    exact ih (k + 1) g (by omega) (by omega)
end
section
variable {size need lifted licked morning tally : Int32} {kinds places lengths downs covers now : Nat → Int32} {v : Nat → Nat} {n B : Nat}
theorem fl_duel (hs : SL size need lifted licked morning tally kinds places lengths downs covers v n) (hw : WF v n B) (hB : B ≤ 40) (ha : AR now v) (asked : Int32) (a1 a2 a3 a4 a5 a6' : Int32) (b1 b2 b3 b4 b5 sc tried worth : Nat → Int32) (x1 : Int32) :
    ∃ r as' sz nd lf lk mo ta kn pl ln dn cv sc' t wo, fX4_duel asked size need lifted licked morning tally kinds places lengths downs covers a1 a2 a3 a4 a5 a6' b1 b2 b3 b4 b5 sc x1 = some (r, as', sz, nd, lf, lk, mo, ta, kn, pl, ln, dn, cv, sc') ∧ fX5_duel asked now tried worth x1 = some (r, as', t, wo) := by
  have hn6 := hw.2.1
  rcases spl x1 (k := 3) (by decide) with ⟨N, hN, rfl⟩ | hx
  rotate_left
  · have z5 : fX5_in0 x1 0 2 = some 0 := (inK0 (k := 2) (by decide) hx).2
    refine ⟨-1, asked, a1, a2, a3, a4, a5, a6', b1, b2, b3, b4, b5, sc, tried, worth, ?_, by unfold fX5_duel; rw [z5, bd1_s, if_pos rfl]⟩
    unfold fX4_duel
    by_cases c : x1 < 0
    · rw [if_pos c]
    · rcases hx with hx | hx
      · exact absurd hx c
      · have c2 : ¬ x1 ≤ 2 := i_gt (k := 2) (by decide) hx
        rw [if_neg c, if_neg c2]
  have z5 : fX5_in0 (nI N) 0 2 = some 1 := (inK1 (k := 2) (by decide) (by omega)).2
  have q1 : ¬ nI N < 0 := nI_pos (by omega)
  have q2 : nI N ≤ 2 := nI_le (b := 2) (by omega) (by decide)
  by_cases n0 : n = 0
  · exact ⟨_, _, _, _, _, _, _, _, _, _, _, _, _, _, _, _, by unfold fX4_duel; rw [if_neg q1, if_pos q2, if_pos (c_any0 hs n0)], by unfold fX5_duel; rw [z5, bd1_s, if_neg one_ne, m_any0 ha hw n0, bd1_s, if_pos rfl]⟩
  obtain ⟨sz, nd, lf, lk, mo, ta, kn, pl, ln, dn, cv, sc1, e1, h1⟩ := c_weigh hs hw (k20 hB) (by omega) b1 b2 b3 b4 b5 sc
  obtain ⟨sc2, e2, h2⟩ := c_turns_L (w := w0N v n) hn6 (M := 2 ^ n) rfl (w0_le v n) (N := N) (by omega) N 0 FU sc1 h1 (by omega) (Nat.lt_of_lt_of_le hN (by decide))
  have hlf := lf_lt hw
  have h64 := pow6 hn6
  have e2 : fX4_duel_L30 size (nI N) FU sc1 0 = some sc2 := by rw [hs.1]; exact e2
  have ev : fX4_valueOf sc2 lifted = some (nI (hrN n (w0N v n) (2 * N) (lfN v n))) := by
    rw [hs.2.2.1, c_val (by omega), h2 _ hlf]
  have h7 := p7 (j := 2 * N) (by omega)
  have c5 : fX5_duel_L25 (nI N) FU 1 0 = _ := m_codes_L (N := N) (by omega) (2 * N) 0 FU (by omega) (Nat.lt_of_le_of_lt (show 2 * N ≤ 4 by omega) (by decide))
  obtain ⟨t1, wo1, f5, g5⟩ := m_fill_L ha hw (k20 hB) (N := N) (C := 7 ^ (2 * N)) (by omega) h7 (7 ^ (2 * N)) 0 FU tried worth (fun x hx => absurd hx (Nat.not_lt_zero x)) (by omega) (Nat.lt_of_le_of_lt h7 (by decide))
  have f5 : fX5_duel_L45 now (nI N) (nI (7 ^ (2 * N))) FU tried worth 0 = _ := f5
  obtain ⟨wo2, k5, l5⟩ := bk_all (n := n) (L := lfN v n) (w := w0N v n) (T := 2 * N) hn6 (w0_le v n) (by omega) (by omega) (2 * N) 0 FU wo1 (by omega) g5 (Nat.lt_of_le_of_lt (show 2 * N ≤ 4 by omega) (by decide))
  have e2N : (2 : Int32) * nI N = nI (2 * N) := nI_mul 2 N
  have el : ald 2401 wo2 0 = some (nI (hrN n (w0N v n) (2 * N) (lfN v n))) := by
    have := ald_nI (n := 2401) (j := 0) (f := wo2) (by decide) (by decide)
    rw [l5, va_s (n := n) (L := lfN v n) (j := 0) (c := 0) rfl] at this
    exact this
  exact ⟨_, _, _, _, _, _, _, _, _, _, _, _, _, _, _, _, by unfold fX4_duel fX4_tell; rw [if_neg q1, if_pos q2, if_neg (c_any1 hs hw n0), e1, bd12_s, e2, bd1_s, ev, bd1_s, bd2_s], by unfold fX5_duel fX5_tells; rw [z5, bd1_s, if_neg one_ne, m_any1 ha hw n0, bd1_s, if_neg one_ne, c5, bd1_s, f5, bd2_s, e2N, k5, bd1_s, el, bd1_s, bd2_s]⟩
end
theorem step_duel : Step_duel Rel := by
  intro c d h x1
  obtain ⟨⟨a1, a2, a3, a4, a5⟩, hB, hC, n, V, q, k, hD⟩ := h
  obtain ⟨hw, hs, ha, hk, -⟩ := hD.get
  obtain ⟨r, as', sz, nd, lf, lk, mo, ta, kn, pl, ln, dn, cv, sc', t, wo, e4, e5⟩ := fl_duel hs hw hk ha (ms_asked d) (cs_as_size c) (cs_as_need c) (cs_as_lifted c) (cs_as_licked c) (cs_as_morning c) (cs_as_tally c) (cs_as_kinds c) (cs_as_places c) (cs_as_lengths c) (cs_as_downs c) (cs_as_covers c) (cs_scratch c) (ms_tried d) (ms_worth d) x1
  rw [← a2] at e4
  exact go2 (map_some e4) (map_some e5) rfl ⟨⟨a1, rfl, a3, a4, a5⟩, hB, hC, n, V, q, k, hD⟩
