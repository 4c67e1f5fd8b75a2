/-! ===== pure: by turns: the class ===== -/
/-- where a peel falls, and how it lies then -/
def fpV (v : Nat → Nat) (i : Nat) : Nat := (5 * isV v i + lnV v i + v 2) % 16
def fdV (v : Nat → Nat) (i : Nat) : Nat := if v 2 % 3 = 2 then 1 - dnV v i else dnV v i
theorem fallK_at (v : Nat → Nat) : ∀ m i, (kdV (fallK v m) i = kdV v i ∧ lnV (fallK v m) i = lnV v i ∧ lfV (fallK v m) i = lfV v i) ∧ (isV (fallK v m) i = if i < m ∧ lfV v i = 0 then fpV v i else isV v i) ∧ (dnV (fallK v m) i = if i < m ∧ lfV v i = 0 then fdV v i else dnV v i)
  | 0, i => by
    refine ⟨⟨rfl, rfl, rfl⟩, ?_, ?_⟩
    · rw [if_neg (fun z => absurd z.1 (Nat.not_lt_zero i))]; rfl
    · rw [if_neg (fun z => absurd z.1 (Nat.not_lt_zero i))]; rfl
  | m + 1, i => by
    obtain ⟨⟨k1, k2, k3⟩, k4, k5⟩ := fallK_at v m i
    obtain ⟨⟨m1, m2, m3⟩, m4, m5⟩ := fallK_at v m m
    rw [if_neg (fun z => absurd z.1 (Nat.lt_irrefl m))] at m4 m5
    have e2 := fallK_2 v m
    rw [fallK]
    by_cases e : i = m
    · subst e
      refine ⟨⟨?_, ?_, ?_⟩, ?_, ?_⟩
      · show fallS (fallK v i) i (5 + 5 * i) = _
        rw [fallS_ne (by omega) (by omega)]; exact k1
      · show fallS (fallK v i) i (7 + 5 * i) = _
        rw [fallS_ne (by omega) (by omega)]; exact k2
      · show fallS (fallK v i) i (9 + 5 * i) = _
        rw [fallS_ne (by omega) (by omega)]; exact k3
      · show fallS (fallK v i) i (6 + 5 * i) = _
        unfold fallS
        rw [m3]
        by_cases c : lfV v i = 0
        · have cc : i < i + 1 ∧ lfV v i = 0 := ⟨Nat.lt_succ_self i, c⟩
          rw [if_pos c, if_pos cc, upN_n _ _ (by omega), upN_s, m2, m4, e2]
          rfl
        · rw [if_neg c, if_neg (fun z => c z.2)]
          exact m4
      · show fallS (fallK v i) i (8 + 5 * i) = _
        unfold fallS
        rw [m3]
        by_cases c : lfV v i = 0
        · have cc : i < i + 1 ∧ lfV v i = 0 := ⟨Nat.lt_succ_self i, c⟩
          rw [if_pos c, if_pos cc, upN_s, m5, e2]
          rfl
        · rw [if_neg c, if_neg (fun z => c z.2)]
          exact m5
    · have hc : (i < m + 1 ∧ lfV v i = 0) ↔ (i < m ∧ lfV v i = 0) := ⟨fun z => ⟨by omega, z.2⟩, fun z => ⟨by omega, z.2⟩⟩
      refine ⟨⟨?_, ?_, ?_⟩, ?_, ?_⟩
      · show fallS (fallK v m) m (5 + 5 * i) = _
        rw [fallS_ne (by omega) (by omega)]; exact k1
      · show fallS (fallK v m) m (7 + 5 * i) = _
        rw [fallS_ne (by omega) (by omega)]; exact k2
      · show fallS (fallK v m) m (9 + 5 * i) = _
        rw [fallS_ne (by omega) (by omega)]; exact k3
      · show fallS (fallK v m) m (6 + 5 * i) = _
        rw [fallS_ne (by omega) (by omega)]
        by_cases c : i < m ∧ lfV v i = 0
        · rw [if_pos c] at k4
          rw [if_pos (hc.mpr c)]
          exact k4
        · rw [if_neg c] at k4
          rw [if_neg (fun z => c (hc.mp z))]
          exact k4
      · show fallS (fallK v m) m (8 + 5 * i) = _
        rw [fallS_ne (by omega) (by omega)]
        by_cases c : i < m ∧ lfV v i = 0
        · rw [if_pos c] at k5
          rw [if_pos (hc.mpr c)]
          exact k5
        · rw [if_neg c] at k5
          rw [if_neg (fun z => c (hc.mp z))]
          exact k5
theorem fallK_lo (v : Nat → Nat) : ∀ m x, x < 5 → fallK v m x = v x
  | 0, _, _ => rfl
  | m + 1, x, hx => by rw [fallK, fallS_ne (by omega) (by omega), fallK_lo v m x hx]
/-- the lines behind a morning, were the peels of S lifted -/
def flV (v : Nat → Nat) (n S : Nat) : Nat := lnsN (v 0) (orN (fun i => if S / 2 ^ i % 2 = 1 then 0 else covN (kdV v i) (fpV v i) (lnV v i) (fdV v i)) n &&& (v 4 ^^^ 4294967295))
theorem fl_ref {u v : Nat → Nat} {n B S : Nat} (hw : WF u n B) (h : ∀ x, x < 5 + 5 * n → u x = ltV v S x) : liV (fallK u n) = flV v n S := by
  have h0 : u 0 = v 0 := by rw [h 0 (by omega), lt_lo _ _ (by decide)]
  have h2 : u 2 = v 2 := by rw [h 2 (by omega), lt_lo _ _ (by decide)]
  have h4 : u 4 = v 4 := by rw [h 4 (by omega), lt_lo _ _ (by decide)]
  have hk : ∀ i, i < n → kdV u i = kdV v i := fun i hi => (h _ (by omega)).trans (lt_k v S i)
  have hi' : ∀ i, i < n → isV u i = isV v i := fun i hi => (h _ (by omega)).trans (lt_i v S i)
  have hl : ∀ i, i < n → lnV u i = lnV v i := fun i hi => (h _ (by omega)).trans (lt_l v S i)
  have hd : ∀ i, i < n → dnV u i = dnV v i := fun i hi => (h _ (by omega)).trans (lt_d v S i)
  have hf : ∀ i, i < n → lfV u i = S / 2 ^ i % 2 := fun i hi => (h _ (by omega)).trans (lt_f v S i)
  have hco : coV (fallK u n) 0 n = orN (fun i => if S / 2 ^ i % 2 = 1 then 0 else covN (kdV v i) (fpV v i) (lnV v i) (fdV v i)) n := by
    refine orN_cong (fun i hi => ?_)
    obtain ⟨⟨k1, k2, k3⟩, k4, k5⟩ := fallK_at u n i
    have hb : S / 2 ^ i % 2 < 2 := Nat.mod_lt _ (by decide)
    have ep : fpV u i = fpV v i := by unfold fpV; rw [hi' i hi, hl i hi, h2]
    have ed : fdV u i = fdV v i := by unfold fdV; rw [hd i hi, h2]
    rw [k3, hf i hi]
    by_cases c : S / 2 ^ i % 2 = 1
    · rw [if_pos (Or.inl c), if_pos c]
    · rw [if_neg (by
        intro z
        rcases z with z | z
        · exact c z
        · rw [Nat.zero_div] at z
          exact absurd z (by decide)), if_neg c]
      rw [if_pos ⟨hi, by rw [hf i hi]; omega⟩] at k4 k5
      unfold cvV
      rw [k1, k2, k4, k5, hk i hi, hl i hi, ep, ed]
  unfold liV cdV
  rw [fallK_lo _ _ 0 (by decide), fallK_lo _ _ 1 (by decide), fallK_lo _ _ 4 (by decide), hw.1, hco, h0, h4]
  rfl
theorem fl_cls {v : Nat → Nat} {n B : Nat} (hw : WF v n B) (S : Nat) : liV (ltV (paV (ltV v 0)) S) = flV v n S := by
  have h1 : ltV v 0 1 = n := by rw [lt_lo _ _ (by decide)]; exact hw.1
  have e : ∀ x, x ≠ 2 → x ≠ 3 → paV (ltV v 0) x = fallK (ltV v 0) n x := fun x a b => by unfold paV; rw [upN_n _ _ a, upN_n _ _ b, h1]
  have hco : coV (ltV (paV (ltV v 0)) S) 0 n = orN (fun i => if S / 2 ^ i % 2 = 1 then 0 else covN (kdV v i) (fpV v i) (lnV v i) (fdV v i)) n := by
    refine orN_cong (fun i hi => ?_)
    obtain ⟨⟨k1, k2, k3⟩, k4, k5⟩ := fallK_at (ltV v 0) n i
    have h0 : lfV (ltV v 0) i = 0 := by rw [lt_f, Nat.zero_div]
    have ep : fpV (ltV v 0) i = fpV v i := by unfold fpV; rw [lt_i, lt_l, lt_lo _ _ (by decide)]
    have ed : fdV (ltV v 0) i = fdV v i := by unfold fdV; rw [lt_d, lt_lo _ _ (by decide)]
    rw [if_pos ⟨hi, h0⟩] at k4 k5
    rw [lt_f, lt_c]
    by_cases c : S / 2 ^ i % 2 = 1
    · rw [if_pos (Or.inl c), if_pos c]
    · rw [if_neg (by
        intro z
        rcases z with z | z
        · exact c z
        · rw [Nat.zero_div] at z
          exact absurd z (by decide)), if_neg c]
      have g1 : kdV (paV (ltV v 0)) i = kdV v i := (e _ (by omega) (by omega)).trans (k1.trans (lt_k v 0 i))
      have g2 : lnV (paV (ltV v 0)) i = lnV v i := (e _ (by omega) (by omega)).trans (k2.trans (lt_l v 0 i))
      have g3 : isV (paV (ltV v 0)) i = fpV v i := (e _ (by omega) (by omega)).trans (k4.trans ep)
      have g4 : dnV (paV (ltV v 0)) i = fdV v i := (e _ (by omega) (by omega)).trans (k5.trans ed)
      unfold cvV
      rw [g1, g2, g3, g4]
  unfold liV cdV
  rw [lt_lo _ _ (by decide), lt_lo _ _ (by decide), lt_lo _ _ (by decide), e 0 (by decide) (by decide), e 1 (by decide) (by decide), e 4 (by decide) (by decide), fallK_lo _ _ 0 (by decide), fallK_lo _ _ 1 (by decide), fallK_lo _ _ 4 (by decide), lt_lo _ _ (by decide), lt_lo _ _ (by decide), lt_lo _ _ (by decide), hw.1, hco]
  rfl
def w0N (v : Nat → Nat) (n S : Nat) : Nat := pcN (flV v n S)
/-- the don's choice, the bedmaker's -/
def dF (f : Nat → Nat) (S : Nat) : Nat → Nat
  | 0 => f S
  | k + 1 => if S / 2 ^ k % 2 = 1 then (if dF f S k ≤ f (S ^^^ 2 ^ k) then f (S ^^^ 2 ^ k) else dF f S k) else dF f S k
def bF (f : Nat → Nat) (S : Nat) : Nat → Nat
  | 0 => f S
  | k + 1 => if S / 2 ^ k % 2 = 1 then bF f S k else (if f (S ^^^ 2 ^ k) < bF f S k then f (S ^^^ 2 ^ k) else bF f S k)
theorem dF_le {f : Nat → Nat} (hf : ∀ x, f x ≤ 16) (S : Nat) : ∀ k, dF f S k ≤ 16
  | 0 => hf S
  | k + 1 => by
    have h1 := dF_le hf S k
    have h2 := hf (S ^^^ 2 ^ k)
    rw [dF]
    split
    · split <;> assumption
    · exact h1
theorem bF_le {f : Nat → Nat} (hf : ∀ x, f x ≤ 16) (S : Nat) : ∀ k, bF f S k ≤ 16
  | 0 => hf S
  | k + 1 => by
    have h1 := bF_le hf S k
    have h2 := hf (S ^^^ 2 ^ k)
    rw [bF]
    split
    · exact h1
    · split <;> assumption
/-- behind r more moves, the last one the don's -/
def hrN (n : Nat) (w : Nat → Nat) : Nat → (Nat → Nat)
  | 0 => w
  | r + 1 => if r % 2 = 0 then (fun S => dF (hrN n w r) S n) else (fun S => bF (hrN n w r) S n)
theorem hr_d {n r : Nat} {w : Nat → Nat} (h : r % 2 = 0) (S : Nat) : hrN n w (r + 1) S = dF (hrN n w r) S n := by rw [hrN, if_pos h]
theorem hr_b {n r : Nat} {w : Nat → Nat} (h : ¬ r % 2 = 0) (S : Nat) : hrN n w (r + 1) S = bF (hrN n w r) S n := by rw [hrN, if_neg h]
theorem hr_le {n : Nat} {w : Nat → Nat} (hw : ∀ x, w x ≤ 16) : ∀ r S, hrN n w r S ≤ 16
  | 0, S => hw S
  | r + 1, S => by
    by_cases c : r % 2 = 0
    · rw [hr_d c]; exact dF_le (hr_le hw r) S n
    · rw [hr_b c]; exact bF_le (hr_le hw r) S n
theorem bits64 : ∀ s, s < 64 → ∀ i, i < 6 → (s / 2 ^ i % 2 = 1 → (s &&& (2 ^ i ^^^ 4294967295)) = s ^^^ 2 ^ i ∧ s ^^^ 2 ^ i < s ∧ s ||| 2 ^ i = s) ∧ (s / 2 ^ i % 2 = 0 → (s &&& (2 ^ i ^^^ 4294967295)) = s ∧ s < s ^^^ 2 ^ i ∧ s ||| 2 ^ i = s ^^^ 2 ^ i) := by decide +kernel
theorem n_jmin {a b : Nat} (ha : a < 2 ^ 31) (hb : b < 2 ^ 31) : jmin (nI a) (nI b) = nI (if b < a then b else a) := by
  unfold jmin
  by_cases c : b < a
  · rw [if_pos (nI_lt c ha), if_pos c]
  · rw [if_neg (nI_nlt (by omega) hb), if_neg c]
theorem c_val {sc : Nat → Int32} {x : Nat} (hx : x < 64) : fX4_valueOf sc (nI x) = some (sc x) := by
  have z : fX4_isIn (nI x) (Int32.ofNat 96) = some 1 := (inK1 (k := 95) (by decide) (by omega)).1
  unfold fX4_valueOf
  rw [z, bd1_s, if_neg one_ne, ald_nI (by omega) (by decide), bd1_s]
section
variable {n M : Nat} {f : Nat → Nat}
theorem c_don1 (hn6 : n ≤ 6) (hM : M = 2 ^ n) (hf : ∀ x, f x ≤ 16) {s : Nat} (hs : s < M) : ∀ (m i fuel : Nat) (sc : Nat → Int32), sc s = nI (dF f s i) → (∀ x, x < s → sc x = nI (f x)) → i + m = n → m < fuel → ∃ sc', fX4_donChooses_L24 (nI n) (nI s) fuel sc (nI i) = some sc' ∧ sc' s = nI (dF f s n) ∧ ∀ x, x ≠ s → sc' x = sc x := by
  have h64 : M ≤ 64 := by rw [hM]; exact pow6 hn6
  intro m
  induction m with
  | zero =>
    intro i fuel sc h1 h2 h3 h4
    obtain ⟨g, rfl⟩ : ∃ f, fuel = f + 1 := ⟨fuel - 1, by omega⟩
    have hi : i = n := by omega
    subst hi
    refine ⟨sc, ?_, h1, fun x _ => rfl⟩
    show fX4_donChooses_B24 _ _ _ _ _ = _
    unfold fX4_donChooses_B24
    rw [if_pos (nI_le (Nat.le_refl i) (by omega))]
  | succ m ih =>
    intro i fuel sc h1 h2 h3 h4
    obtain ⟨g, rfl⟩ : ∃ f, fuel = f + 1 := ⟨fuel - 1, by omega⟩
    obtain ⟨g1, g0⟩ := bits64 s (by omega) i (by omega)
    have hd := dF_le hf s i
    have e1 : nI s &&& (((1 : Int32) <<< (nI i &&& 31)) ^^^ (-1)) = nI (s &&& (2 ^ i ^^^ 4294967295)) := by rw [sh1 (by omega), n_m1, n_xor, n_and]
    have key : ∃ z, fX4_valueOf sc (nI (s &&& (2 ^ i ^^^ 4294967295))) = some (nI z) ∧ jmax (nI (dF f s i)) (nI z) = nI (dF f s (i + 1)) := by
      by_cases c : s / 2 ^ i % 2 = 1
      · obtain ⟨k1, k2, -⟩ := g1 c
        have hz := hf (s ^^^ 2 ^ i)
        refine ⟨f (s ^^^ 2 ^ i), ?_, ?_⟩
        · rw [k1, c_val (by omega), h2 _ k2]
        · rw [n_jmax (by omega) (by omega), dF, if_pos c]
      · obtain ⟨k1, -, -⟩ := g0 (by omega)
        refine ⟨dF f s i, ?_, ?_⟩
        · rw [k1, c_val (by omega), h1]
        · rw [n_jmax (by omega) (by omega), dF, if_neg c, if_pos (Nat.le_refl _)]
    obtain ⟨z, k1, k2⟩ := key
    obtain ⟨sc', q1, q2, q3⟩ := ih (i + 1) g (upd sc s (nI (dF f s (i + 1)))) (upd_s _ _ _) (fun x hx => by rw [upd_n _ _ (by omega)]; exact h2 x hx) (by omega) (by omega)
    refine ⟨sc', ?_, q2, fun x hx => by rw [q3 x hx, upd_n _ _ hx]⟩
    show fX4_donChooses_B24 _ _ _ _ _ = _
    unfold fX4_donChooses_B24
    rw [if_neg (nI_ge (by omega) (by omega)), ald_nI (by omega) (by decide), h1, bd1_s, e1, k1, bd1_s, k2, ast_nI (by omega) (by decide), bd1_s, nI_1]
    exact q1
theorem c_don_L (hn6 : n ≤ 6) (hM : M = 2 ^ n) (hf : ∀ x, f x ≤ 16) : ∀ (s fuel : Nat) (sc : Nat → Int32), s ≤ M → (∀ x, x < s → sc x = nI (f x)) → (∀ x, s ≤ x → x < M → sc x = nI (dF f x n)) → s < fuel → ∃ sc', fX4_donChooses_L18 (nI n) fuel sc (nI s - 1) = some sc' ∧ ∀ x, x < M → sc' x = nI (dF f x n) := by
  have h64 : M ≤ 64 := by rw [hM]; exact pow6 hn6
  intro s
  induction s with
  | zero =>
    intro fuel sc h1 h2 h3 h4
    obtain ⟨g, rfl⟩ : ∃ f, fuel = f + 1 := ⟨fuel - 1, by omega⟩
    refine ⟨sc, ?_, fun x hx => h3 x (Nat.zero_le x) hx⟩
    show fX4_donChooses_B18 _ _ _ _ = _
    unfold fX4_donChooses_B18
    rw [if_pos (by decide)]
  | succ s ih =>
    intro fuel sc h1 h2 h3 h4
    obtain ⟨g, rfl⟩ : ∃ f, fuel = f + 1 := ⟨fuel - 1, by omega⟩
    obtain ⟨sc1, q1, q2, q3⟩ := c_don1 hn6 hM hf (s := s) (by omega) n 0 FU sc (h2 s (by omega)) (fun x hx => h2 x (by omega)) (by omega) (Nat.lt_of_le_of_lt hn6 (by decide))
    have q1 : fX4_donChooses_L24 (nI n) (nI s) FU sc 0 = _ := q1
    obtain ⟨sc', p1, p2⟩ := ih g sc1 (by omega) (fun x hx => by rw [q3 x (by omega)]; exact h2 x (by omega)) (fun x hx hxM => by
      by_cases e : x = s
      · subst e; exact q2
      · rw [q3 x e]; exact h3 x (by omega) hxM) (by omega)
    refine ⟨sc', ?_, p2⟩
    show fX4_donChooses_B18 _ _ _ _ = _
    unfold fX4_donChooses_B18
    rw [nI_pred, if_neg (nI_pos (by omega)), q1, bd1_s, ← Int32.sub_eq_add_neg]
    exact p1
theorem c_don (hn6 : n ≤ 6) (hM : M = 2 ^ n) (hf : ∀ x, f x ≤ 16) {sc : Nat → Int32} (h : ∀ x, x < M → sc x = nI (f x)) : ∃ sc', fX4_donChooses (nI n) sc = some sc' ∧ ∀ x, x < M → sc' x = nI (dF f x n) := by
  have h64 : M ≤ 64 := by rw [hM]; exact pow6 hn6
  have h0 : 0 < M := by rw [hM]; exact Nat.two_pow_pos n
  obtain ⟨sc', q1, q2⟩ := c_don_L hn6 hM hf M FU sc (Nat.le_refl M) h (fun x h1 h2 => absurd h2 (by omega)) (Nat.lt_of_le_of_lt h64 (by decide))
  refine ⟨sc', ?_, q2⟩
  have ea : fX3_allPeels (nI n) = some (nI M - 1) := by
    unfold fX3_allPeels
    rw [sh1 (by omega), hM]
  have ej : jmin (nI M - 1) (Int32.ofNat 96 - 1) = nI M - 1 := by
    have e1 : nI M - 1 = nI (M - 1) := nI_sub (b := 1) h0
    have e2 : Int32.ofNat 96 - 1 = nI 95 := by decide
    rw [e1, e2, n_jmin (by omega) (by decide), if_neg (by omega)]
  unfold fX4_donChooses
  rw [ea, bd1_s, ej, q1, bd1_s]
theorem c_bed1 (hn6 : n ≤ 6) (hM : M = 2 ^ n) (hf : ∀ x, f x ≤ 16) {s : Nat} (hs : s < M) : ∀ (m i fuel : Nat) (sc : Nat → Int32), sc s = nI (bF f s i) → (∀ x, s < x → x < M → sc x = nI (f x)) → i + m = n → m < fuel → ∃ sc', fX4_bedmakerChooses_L26 (nI n) (nI s) fuel sc (nI i) = some sc' ∧ sc' s = nI (bF f s n) ∧ ∀ x, x ≠ s → sc' x = sc x := by
  have h64 : M ≤ 64 := by rw [hM]; exact pow6 hn6
  intro m
  induction m with
  | zero =>
    intro i fuel sc h1 h2 h3 h4
    obtain ⟨g, rfl⟩ : ∃ f, fuel = f + 1 := ⟨fuel - 1, by omega⟩
    have hi : i = n := by omega
    subst hi
    refine ⟨sc, ?_, h1, fun x _ => rfl⟩
    show fX4_bedmakerChooses_B26 _ _ _ _ _ = _
    unfold fX4_bedmakerChooses_B26
    rw [if_pos (nI_le (Nat.le_refl i) (by omega))]
  | succ m ih =>
    intro i fuel sc h1 h2 h3 h4
    obtain ⟨g, rfl⟩ : ∃ f, fuel = f + 1 := ⟨fuel - 1, by omega⟩
    obtain ⟨g1, g0⟩ := bits64 s (by omega) i (by omega)
    have hd := bF_le hf s i
    have e1 : nI s ||| ((1 : Int32) <<< (nI i &&& 31)) = nI (s ||| 2 ^ i) := by rw [sh1 (by omega), n_or]
    have key : ∃ z, fX4_valueOf sc (nI (s ||| 2 ^ i)) = some (nI z) ∧ jmin (nI (bF f s i)) (nI z) = nI (bF f s (i + 1)) := by
      by_cases c : s / 2 ^ i % 2 = 1
      · obtain ⟨-, -, k1⟩ := g1 c
        refine ⟨bF f s i, ?_, ?_⟩
        · rw [k1, c_val (by omega), h1]
        · rw [n_jmin (by omega) (by omega), bF, if_pos c, if_neg (Nat.lt_irrefl _)]
      · obtain ⟨-, k2, k1⟩ := g0 (by omega)
        have hz := hf (s ^^^ 2 ^ i)
        have hlt : s ^^^ 2 ^ i < M := by
          rw [hM]
          exact Nat.xor_lt_two_pow (by rw [← hM]; exact hs) (Nat.pow_lt_pow_right (by decide) (by omega))
        refine ⟨f (s ^^^ 2 ^ i), ?_, ?_⟩
        · rw [k1, c_val (by omega), h2 _ k2 hlt]
        · rw [n_jmin (by omega) (by omega), bF, if_neg c]
    obtain ⟨z, k1, k2⟩ := key
    obtain ⟨sc', q1, q2, q3⟩ := ih (i + 1) g (upd sc s (nI (bF f s (i + 1)))) (upd_s _ _ _) (fun x hx hxM => by rw [upd_n _ _ (by omega)]; exact h2 x hx hxM) (by omega) (by omega)
    refine ⟨sc', ?_, q2, fun x hx => by rw [q3 x hx, upd_n _ _ hx]⟩
    show fX4_bedmakerChooses_B26 _ _ _ _ _ = _
    unfold fX4_bedmakerChooses_B26
    rw [if_neg (nI_ge (by omega) (by omega)), ald_nI (by omega) (by decide), h1, bd1_s, e1, k1, bd1_s, k2, ast_nI (by omega) (by decide), bd1_s, nI_1]
    exact q1
theorem c_bed_L (hn6 : n ≤ 6) (hM : M = 2 ^ n) (hf : ∀ x, f x ≤ 16) : ∀ (m s fuel : Nat) (sc : Nat → Int32), s + m = M → (∀ x, x < s → sc x = nI (bF f x n)) → (∀ x, s ≤ x → x < M → sc x = nI (f x)) → m < fuel → ∃ sc', fX4_bedmakerChooses_L10 (nI n) (nI (M - 1)) fuel sc (nI s) = some sc' ∧ ∀ x, x < M → sc' x = nI (bF f x n) := by
  have h64 : M ≤ 64 := by rw [hM]; exact pow6 hn6
  have h0 : 0 < M := by rw [hM]; exact Nat.two_pow_pos n
  intro m
  induction m with
  | zero =>
    intro s fuel sc h1 h2 h3 h4
    obtain ⟨g, rfl⟩ : ∃ f, fuel = f + 1 := ⟨fuel - 1, by omega⟩
    have hs : s = M := by omega
    refine ⟨sc, ?_, fun x hx => h2 x (by omega)⟩
    show fX4_bedmakerChooses_B10 _ _ _ _ _ = _
    unfold fX4_bedmakerChooses_B10
    rw [if_pos (nI_lt (by omega) (by omega))]
  | succ m ih =>
    intro s fuel sc h1 h2 h3 h4
    obtain ⟨g, rfl⟩ : ∃ f, fuel = f + 1 := ⟨fuel - 1, by omega⟩
    have c96 : ¬ Int32.ofNat 96 ≤ nI s := nI_ge (b := 96) (by omega) (by decide)
    obtain ⟨sc1, q1, q2, q3⟩ := c_bed1 hn6 hM hf (s := s) (by omega) n 0 FU sc (h3 s (Nat.le_refl s) (by omega)) (fun x hx hxM => h3 x (by omega) hxM) (by omega) (Nat.lt_of_le_of_lt hn6 (by decide))
    have q1 : fX4_bedmakerChooses_L26 (nI n) (nI s) FU sc 0 = _ := q1
    obtain ⟨sc', p1, p2⟩ := ih (s + 1) g sc1 (by omega) (fun x hx => by
      by_cases e : x = s
      · subst e; exact q2
      · rw [q3 x e]; exact h2 x (by omega)) (fun x hx hxM => by rw [q3 x (by omega)]; exact h3 x (by omega) hxM) (by omega)
    refine ⟨sc', ?_, p2⟩
    show fX4_bedmakerChooses_B10 _ _ _ _ _ = _
    unfold fX4_bedmakerChooses_B10
    rw [if_neg (nI_nlt (by omega) (by omega)), if_neg c96, q1, bd1_s, nI_1]
    exact p1
theorem c_bed (hn6 : n ≤ 6) (hM : M = 2 ^ n) (hf : ∀ x, f x ≤ 16) {sc : Nat → Int32} (h : ∀ x, x < M → sc x = nI (f x)) : ∃ sc', fX4_bedmakerChooses (nI n) sc = some sc' ∧ ∀ x, x < M → sc' x = nI (bF f x n) := by
  have h64 : M ≤ 64 := by rw [hM]; exact pow6 hn6
  have h0 : 0 < M := by rw [hM]; exact Nat.two_pow_pos n
  obtain ⟨sc', q1, q2⟩ := c_bed_L hn6 hM hf M 0 FU sc (by omega) (fun x hx => absurd hx (Nat.not_lt_zero x)) (fun x _ hx => h x hx) (Nat.lt_of_le_of_lt h64 (by decide))
  have q1 : fX4_bedmakerChooses_L10 (nI n) (nI (M - 1)) FU sc 0 = _ := q1
  refine ⟨sc', ?_, q2⟩
  have ea : fX3_allPeels (nI n) = some (nI (M - 1)) := by
    unfold fX3_allPeels
    rw [sh1 (by omega), ← hM]
    exact congrArg some (nI_sub (b := 1) h0)
  unfold fX4_bedmakerChooses
  rw [ea, bd1_s, q1, bd1_s]
theorem c_turns_L {w : Nat → Nat} (hn6 : n ≤ 6) (hM : M = 2 ^ n) (hw : ∀ x, w x ≤ 16) {N : Nat} (hN : N ≤ 2) : ∀ (m j fuel : Nat) (sc : Nat → Int32), (∀ x, x < M → sc x = nI (hrN n w (2 * j) x)) → j + m = N → m < fuel → ∃ sc', fX4_duel_L30 (nI n) (nI N) fuel sc (nI j) = some sc' ∧ ∀ x, x < M → sc' x = nI (hrN n w (2 * N) x) := by
  intro m
  induction m with
  | zero =>
    intro j fuel sc h1 h2 h3
    obtain ⟨g, rfl⟩ : ∃ f, fuel = f + 1 := ⟨fuel - 1, by omega⟩
    have hj : j = N := by omega
    subst hj
    refine ⟨sc, ?_, h1⟩
    show fX4_duel_B30 _ _ _ _ _ = _
    unfold fX4_duel_B30
    rw [if_pos (nI_le (Nat.le_refl j) (by omega))]
  | succ m ih =>
    intro j fuel sc h1 h2 h3
    obtain ⟨g, rfl⟩ : ∃ f, fuel = f + 1 := ⟨fuel - 1, by omega⟩
    have c2 : ¬ (2 : Int32) ≤ nI j := nI_ge (b := 2) (by omega) (by decide)
    obtain ⟨sc1, q1, q2⟩ := c_don hn6 hM (hr_le hw (2 * j)) h1
    obtain ⟨sc2, p1, p2⟩ := c_bed (f := hrN n w (2 * j + 1)) hn6 hM (hr_le hw (2 * j + 1)) (sc := sc1) (fun x hx => by rw [q2 x hx, hr_d (by omega)])
    obtain ⟨sc', r1, r2⟩ := ih (j + 1) g sc2 (fun x hx => by rw [p2 x hx, show 2 * (j + 1) = 2 * j + 1 + 1 by omega, hr_b (by omega)]) (by omega) (by omega)
    refine ⟨sc', ?_, r2⟩
    show fX4_duel_B30 _ _ _ _ _ = _
    unfold fX4_duel_B30
    rw [if_neg (nI_ge (by omega) (by omega)), if_neg c2, q1, bd1_s, p1, bd1_s, nI_1]
    exact r1
end
section
variable {size need lifted licked morning tally : Int32} {kinds places lengths downs covers : Nat → Int32} {v : Nat → Nat} {n B : Nat}
theorem w0_le (v : Nat → Nat) (n S : Nat) : w0N v n S ≤ 16 := pcN_le _
theorem c_weigh_L {mo ta : Int32} {kn pl ln dn cv : Nat → Int32} (hS : SL size need 0 licked mo ta kn pl ln dn cv (paV (ltV v 0)) n) (hw : WF v n B) (hn : 0 < n) {M : Nat} (hM : M = 2 ^ n) : ∀ (m s fuel : Nat) (lf : Int32) (sc : Nat → Int32), (∀ x, x < s → sc x = nI (w0N v n x)) → s + m = M → m < fuel → ∃ lf' sc', fX4_weighLiftedSets_L36 size need licked cv (nI (M - 1)) fuel lf sc (nI s) = some (lf', sc') ∧ ∀ x, x < M → sc' x = nI (w0N v n x) := by
  have h64 : M ≤ 64 := by rw [hM]; exact pow6 hw.2.1
  have h0 : 0 < M := by rw [hM]; exact Nat.two_pow_pos n
  intro m
  induction m with
  | zero =>
    intro s fuel lf sc h1 h2 h3
    obtain ⟨g, rfl⟩ : ∃ f, fuel = f + 1 := ⟨fuel - 1, by omega⟩
    have hs : s = M := by omega
    refine ⟨lf, sc, ?_, fun x hx => h1 x (by omega)⟩
    show fX4_weighLiftedSets_B36 _ _ _ _ _ _ _ _ _ = _
    unfold fX4_weighLiftedSets_B36
    rw [if_pos (nI_lt (by omega) (by omega))]
  | succ m ih =>
    intro s fuel lf sc h1 h2 h3
    obtain ⟨g, rfl⟩ : ∃ f, fuel = f + 1 := ⟨fuel - 1, by omega⟩
    have c96 : ¬ Int32.ofNat 96 ≤ nI s := nI_ge (b := 96) (by omega) (by decide)
    have hsn : s < 2 ^ n := by rw [← hM]; omega
    have el : fX3_linesNow size need (nI s) licked cv = some (nI (flV v n s)) := by
      have := c_linesNow (lt_SL hS hsn) (lt_WF s (paV_WF (lt_WF 0 hw))) hn
      rw [fl_cls hw] at this
      exact this
    have hlt : flV v n s < 256 := lnsN_lt _ _
    obtain ⟨lf', sc', q1, q2⟩ := ih (s + 1) g (nI s) (upd sc s (nI (w0N v n s))) (fun x hx => by
      by_cases e : x = s
      · subst e; rw [upd_s]
      · rw [upd_n _ _ e]; exact h1 x (by omega)) (by omega) (by omega)
    refine ⟨lf', sc', ?_, q2⟩
    show fX4_weighLiftedSets_B36 _ _ _ _ _ _ _ _ _ = _
    unfold fX4_weighLiftedSets_B36
    rw [if_neg (nI_nlt (by omega) (by omega)), if_neg c96, el, bd1_s, bitc_n (by omega), ast_nI (by omega) (by decide), bd1_s, nI_1]
    exact q1
theorem c_weigh (hs : SL size need lifted licked morning tally kinds places lengths downs covers v n) (hw : WF v n B) (hB : B < 2 ^ 20) (hn : 0 < n) (b1 b2 b3 b4 b5 sc : Nat → Int32) : ∃ sz nd lf lk mo ta kn pl ln dn cv sc', fX4_weighLiftedSets size need lifted licked morning tally kinds places lengths downs covers b1 b2 b3 b4 b5 sc = some (sz, nd, lf, lk, mo, ta, kn, pl, ln, dn, cv, sc') ∧ ∀ x, x < 2 ^ n → sc' x = nI (w0N v n x) := by
  have hn6 := hw.2.1
  obtain ⟨k1, p1, l1, d1, v1, et, hT⟩ := c_take b1 b2 b3 b4 b5 (o_size := size) (o_need := need) (o_lifted := lifted) (o_licked := licked) (o_morning := morning) (o_tally := tally) (o_kinds := kinds) (o_places := places) (o_lengths := lengths) (o_downs := downs) (o_covers := covers)
  have hS0 : SL size need 0 licked morning tally k1 p1 l1 d1 v1 (ltV v 0) n := lt_SL (X := 0) (hT v n hn6 hs) (Nat.two_pow_pos n)
  obtain ⟨mo, ta, pl, dn, cv, ef, hS⟩ := c_fall hS0 (lt_WF 0 hw) hB hn
  obtain ⟨lf', sc', q1, q2⟩ := c_weigh_L hS hw hn (M := 2 ^ n) rfl (2 ^ n) 0 FU 0 sc (fun x hx => absurd hx (Nat.not_lt_zero x)) (by omega) (Nat.lt_of_le_of_lt (pow6 hn6) (by decide))
  have q1 : fX4_weighLiftedSets_L36 size need licked cv (nI (2 ^ n - 1)) FU 0 sc 0 = _ := q1
  exact ⟨_, _, _, _, _, _, _, _, _, _, _, sc', by unfold fX4_weighLiftedSets; rw [et, bd11_s, ef, bd5_s, c_allPeels hs hw, bd1_s, q1, bd2_s], q2⟩
end
