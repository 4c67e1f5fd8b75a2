/-! ===== pure: odds, mid ===== -/
theorem lgc0 : lg_cmp (lN 0) 0 = 0 := by decide
theorem lgc1 {b : Nat} (h0 : 0 < b) (hb : b < 2 ^ 63) : lg_cmp (lN b) 0 = 1 := by
  unfold lg_cmp
  have h : (0 : Int64) < lN b := (pk_lLT (a := 0) (by decide) hb).mpr h0
  rw [if_pos h]
theorem lne0 {b : Nat} (h0 : 0 < b) (hb : b < 2 ^ 63) : ¬ lN b = 0 := fun z => by
  have := (pk_lEQ (b := 0) hb (by decide)).mp z
  omega
theorem gcd_st (a b : Nat) : Nat.gcd a b = Nat.gcd b (a % b) := by rw [Nat.gcd_comm a b, Nat.gcd_rec, Nat.gcd_comm]
theorem mod_half {b r : Nat} (h0 : 0 < r) (h : r < b) : 2 * (b % r) < b := by
  by_cases c : 2 * r ≤ b
  · have := Nat.mod_lt b h0
    omega
  · rw [Nat.mod_eq_sub_mod (by omega), Nat.mod_eq_of_lt (by omega)]
    omega
theorem eu_0 {a : Nat} (f : Nat) {j : Nat} (hj : j < 100) : fX4_tellChance_L9 (f + 1) (lN a) (lN 0) (nI j) = some (lN a) ∧ fX5_told_L6 (f + 1) (lN a) (lN 0) = some (lN a) := by
  have c : ¬ (100 : Int32) ≤ nI j := nI_ge (b := 100) hj (by decide)
  constructor
  · show fX4_tellChance_B9 _ _ _ _ = _
    unfold fX4_tellChance_B9
    rw [if_neg c, if_pos lgc0]
  · show fX5_told_B6 _ _ _ = _
    unfold fX5_told_B6
    rw [if_pos lgc0]
theorem eu_1 {a b : Nat} (ha : a < 2 ^ 63) (h0 : 0 < b) (hb : b < 2 ^ 63) (f : Nat) {j : Nat} (hj : j < 100) : fX4_tellChance_L9 (f + 1) (lN a) (lN b) (nI j) = fX4_tellChance_L9 f (lN b) (lN (a % b)) (nI (j + 1)) ∧ fX5_told_L6 (f + 1) (lN a) (lN b) = fX5_told_L6 f (lN b) (lN (a % b)) := by
  have c : ¬ (100 : Int32) ≤ nI j := nI_ge (b := 100) hj (by decide)
  have c1 : ¬ lg_cmp (lN b) 0 = 0 := by rw [lgc1 h0 hb]; decide
  constructor
  · show fX4_tellChance_B9 _ _ _ _ = _
    unfold fX4_tellChance_B9
    rw [if_neg c, if_neg c1, if_neg (lne0 h0 hb), pk_lRem ha h0 hb, nI_1]
  · show fX5_told_B6 _ _ _ = _
    unfold fX5_told_B6
    rw [if_neg c1, if_neg (lne0 h0 hb), pk_lRem ha h0 hb]
theorem eu_L : ∀ (m a b j f : Nat), a < 2 ^ 63 → b < 2 ^ 63 → b < 2 ^ m → j + 2 * m < 100 → 2 * m < f → fX4_tellChance_L9 f (lN a) (lN b) (nI j) = some (lN (Nat.gcd a b)) ∧ fX5_told_L6 f (lN a) (lN b) = some (lN (Nat.gcd a b))
  | 0, a, b, j, f, ha, hb, hm, hj, hf => by
    obtain ⟨f, rfl⟩ : ∃ g, f = g + 1 := ⟨f - 1, by omega⟩
    have : b = 0 := Nat.lt_one_iff.mp hm
    subst this
    rw [Nat.gcd_zero_right]
    exact eu_0 f (by omega)
  | m + 1, a, b, j, f, ha, hb, hm, hj, hf => by
    obtain ⟨f, rfl⟩ : ∃ g, f = g + 2 := ⟨f - 2, by omega⟩
    by_cases h0 : b = 0
    · subst h0
      rw [Nat.gcd_zero_right]
      exact eu_0 (f + 1) (by omega)
    obtain ⟨e1, e2⟩ := eu_1 ha (Nat.pos_of_ne_zero h0) hb (f + 1) (j := j) (by omega)
    rw [e1, e2, gcd_st]
    have hr := Nat.mod_lt a (Nat.pos_of_ne_zero h0)
    by_cases h1 : a % b = 0
    · rw [h1, Nat.gcd_zero_right]
      exact eu_0 f (by omega)
    obtain ⟨e3, e4⟩ := eu_1 hb (Nat.pos_of_ne_zero h1) (by omega) f (j := j + 1) (by omega)
    rw [e3, e4, gcd_st]
    have h2 := mod_half (Nat.pos_of_ne_zero h1) hr
    rw [Nat.pow_succ] at hm
    exact eu_L m (a % b) (b % (a % b)) (j + 1 + 1) f (by omega) (by omega) (by omega) (by omega) (by omega)
theorem tc_all (u l : Int64) {a b : Nat} (ha : a < 2 ^ 63) (h0 : 0 < b) (hb : b < 2 ^ 40) : fX4_tellChance u l (lN a) (lN b) = some (lN (a / Nat.gcd a b), lN (b / Nat.gcd a b)) ∧ fX5_told (lN a) (lN b) = some (1, lN (a / Nat.gcd a b), lN (b / Nat.gcd a b)) := by
  obtain ⟨e4, e5⟩ := eu_L 40 a b 0 FU ha (by omega) hb (by decide) (by decide)
  have e4 : fX4_tellChance_L9 FU (lN a) (lN b) 0 = _ := e4
  have hg : 0 < Nat.gcd a b := Nat.gcd_pos_of_pos_right a h0
  have hg2 : Nat.gcd a b ≤ b := Nat.gcd_le_right a h0
  have hd1 := pk_lDiv ha hg (show Nat.gcd a b < 2 ^ 63 by omega)
  have hd2 := pk_lDiv (show b < 2 ^ 63 by omega) hg (show Nat.gcd a b < 2 ^ 63 by omega)
  have hn := lne0 hg (show Nat.gcd a b < 2 ^ 63 by omega)
  constructor
  · unfold fX4_tellChance
    rw [e4, bd1_s, lgc1 hg (by omega), if_neg (by decide), if_neg hn, if_neg hn, hd1, hd2]
  · unfold fX5_told
    rw [e5, bd1_s, if_neg hn, if_neg hn, hd1, hd2]
/-- other peels lifted -/
def ltV (v : Nat → Nat) (X : Nat) : Nat → Nat := fun x => if 5 ≤ x ∧ x % 5 = 4 then X / 2 ^ ((x - 9) / 5) % 2 else v x
section
variable (v : Nat → Nat) (X : Nat)
theorem lt_lo {x : Nat} (h : x < 5) : ltV v X x = v x := by unfold ltV; rw [if_neg (by omega)]
theorem lt_k (i : Nat) : kdV (ltV v X) i = kdV v i := by unfold kdV ltV; rw [if_neg (by omega)]
theorem lt_i (i : Nat) : isV (ltV v X) i = isV v i := by unfold isV ltV; rw [if_neg (by omega)]
theorem lt_l (i : Nat) : lnV (ltV v X) i = lnV v i := by unfold lnV ltV; rw [if_neg (by omega)]
theorem lt_d (i : Nat) : dnV (ltV v X) i = dnV v i := by unfold dnV ltV; rw [if_neg (by omega)]
theorem lt_f (i : Nat) : lfV (ltV v X) i = X / 2 ^ i % 2 := by
  unfold lfV ltV
  rw [if_pos (by omega), show (9 + 5 * i - 9) / 5 = i by omega]
theorem lt_c (i : Nat) : cvV (ltV v X) i = cvV v i := by unfold cvV; rw [lt_k, lt_i, lt_l, lt_d]
end
theorem sum_bits (X : Nat) : ∀ n, sumN (fun i => X / 2 ^ i % 2 * 2 ^ i) n = X % 2 ^ n
  | 0 => by rw [Nat.pow_zero, Nat.mod_one]; rfl
  | n + 1 => by rw [sumN, sum_bits X n, Nat.mod_pow_succ, Nat.mul_comm]
theorem lt_N (v : Nat → Nat) {X n : Nat} (h : X < 2 ^ n) : lfN (ltV v X) n = X := by
  have e : lfN (ltV v X) n = sumN (fun i => X / 2 ^ i % 2 * 2 ^ i) n := sumN_cong (fun j _ => by rw [lt_f])
  rw [e, sum_bits, Nat.mod_eq_of_lt h]
theorem lt_WF {v : Nat → Nat} {n B : Nat} (X : Nat) (hw : WF v n B) : WF (ltV v X) n B := by
  obtain ⟨h1, h2, h3, h4, h5, h6, h7, h8⟩ := hw
  refine ⟨by rw [lt_lo _ _ (by decide)]; exact h1, h2, by rw [lt_lo _ _ (by decide)]; exact h3, by rw [lt_lo _ _ (by decide)]; exact h4, by rw [lt_lo _ _ (by decide)]; exact h5, by rw [lt_lo _ _ (by decide)]; exact h6, by rw [lt_lo _ _ (by decide)]; exact h7, ?_⟩
  intro i hi
  obtain ⟨a, b, c, d, -⟩ := h8 i hi
  rw [lt_k, lt_i, lt_l, lt_d, lt_f]
  exact ⟨a, b, c, d, Nat.mod_lt _ (by decide)⟩
theorem lt_SL {size need lifted licked morning tally : Int32} {kinds places lengths downs covers : Nat → Int32} {v : Nat → Nat} {n X : Nat} (hs : SL size need lifted licked morning tally kinds places lengths downs covers v n) (hX : X < 2 ^ n) : SL size need (nI X) licked morning tally kinds places lengths downs covers (ltV v X) n := by
  obtain ⟨s1, s2, s3, s4, s5, s6, s7⟩ := hs
  refine ⟨s1, by rw [lt_lo _ _ (by decide)]; exact s2, by rw [lt_N v hX], by rw [lt_lo _ _ (by decide)]; exact s4, by rw [lt_lo _ _ (by decide)]; exact s5, by rw [lt_lo _ _ (by decide)]; exact s6, fun i hi => ?_⟩
  rw [lt_k, lt_i, lt_l, lt_d, lt_c]
  exact s7 i hi
theorem or_bit (a b i : Nat) : (a ||| b) / 2 ^ i % 2 = 1 ↔ (a / 2 ^ i % 2 = 1 ∨ b / 2 ^ i % 2 = 1) := by
  have := Nat.testBit_or a b i
  rw [tb_eq, tb_eq, tb_eq] at this
  by_cases c : (a ||| b) / 2 ^ i % 2 = 1 <;> by_cases d : a / 2 ^ i % 2 = 1 <;> by_cases e : b / 2 ^ i % 2 = 1 <;> simp [c, d, e] at this ⊢
/-- some burnt besides: as if lifted -/
theorem lt_li {v : Nat → Nat} {n B : Nat} (hw : WF v n B) (s : Nat) : liV (ltV v (lfN v n ||| s)) = lnsN (v 0) (cdV v s) := by
  have h8 : ∀ i, i < n → lfV v i < 2 := fun i hi => (hw.2.2.2.2.2.2.2 i hi).2.2.2.2
  have hco : coV (ltV v (lfN v n ||| s)) 0 n = coV v s n := by
    refine orN_cong (fun j hj => ?_)
    rw [lt_c, lt_f]
    have hb := or_bit (lfN v n) s j
    rw [lfN_bit h8 j hj] at hb
    by_cases c : lfV v j = 1 ∨ s / 2 ^ j % 2 = 1
    · rw [if_pos c, if_pos (Or.inl (hb.mpr c))]
    · rw [if_neg c, if_neg (by
        intro z
        rcases z with z | z
        · exact c (hb.mp z)
        · rw [Nat.zero_div] at z
          exact absurd z (by decide))]
  unfold liV cdV
  rw [lt_lo _ _ (by decide), lt_lo _ _ (by decide), lt_lo _ _ (by decide), hw.1, hco]
def wtN (L s p : Nat) : Nat → Nat
  | 0 => 1
  | k + 1 => wtN L s p k * (if L / 2 ^ k % 2 = 1 then 1 else if s / 2 ^ k % 2 = 1 then p else 12 - p)
def blN (L : Nat) : Nat → Nat
  | 0 => 1
  | k + 1 => blN L k * (if L / 2 ^ k % 2 = 1 then 1 else 12)
def lwN (L n p K : Nat) : Nat := sumN (fun s => if s &&& L = 0 then wtN L s p n else 0) K
theorem lw_all : ((List.range 7).all fun n => (List.range (2 ^ n)).all fun L => (List.range 13).all fun p => Nat.beq (lwN L n p (2 ^ n)) (blN L n)) = true := by decide +kernel
theorem lw_ok {n L p : Nat} (hn : n ≤ 6) (hL : L < 2 ^ n) (hp : p ≤ 12) : lwN L n p (2 ^ n) = blN L n := by
  have h1 := List.all_eq_true.mp lw_all n (List.mem_range.mpr (by omega))
  have h2 := List.all_eq_true.mp h1 L (List.mem_range.mpr hL)
  have h3 := List.all_eq_true.mp h2 p (List.mem_range.mpr (by omega))
  exact Nat.eq_of_beq_eq_true h3
theorem bl_b (L : Nat) : ∀ n, 0 < blN L n ∧ blN L n ≤ 12 ^ n
  | 0 => ⟨Nat.zero_lt_one, Nat.le_refl _⟩
  | n + 1 => by
    obtain ⟨h1, h2⟩ := bl_b L n
    rw [blN, Nat.pow_succ]
    split
    · omega
    · omega
def upS (v : Nat → Nat) (C : Nat → Nat) (L n p K : Nat) : Nat := sumN (fun s => if s &&& L = 0 then wtN L s p n * C (lnsN (v 0) (cdV v s)) else 0) K
theorem up_le (v : Nat → Nat) {C : Nat → Nat} (hC : ∀ x, C x ≤ 16) (L n p : Nat) : ∀ K, upS v C L n p K ≤ lwN L n p K * 16
  | 0 => Nat.le_refl _
  | K + 1 => by
    have ih := up_le v hC L n p K
    have h1 : upS v C L n p (K + 1) = upS v C L n p K + (if K &&& L = 0 then wtN L K p n * C (lnsN (v 0) (cdV v K)) else 0) := rfl
    have h2 : lwN L n p (K + 1) = lwN L n p K + (if K &&& L = 0 then wtN L K p n else 0) := rfl
    rw [h1, h2]
    by_cases c : K &&& L = 0
    · rw [if_pos c, if_pos c]
      have := Nat.mul_le_mul_left (wtN L K p n) (hC (lnsN (v 0) (cdV v K)))
      omega
    · rw [if_neg c, if_neg c]
      omega
section
variable {size need lifted licked morning tally : Int32} {kinds places lengths downs covers now : Nat → Int32} {v : Nat → Nat} {n B : Nat}
theorem m_isDown (ha : AR now v) (hw : WF v n B) {i : Nat} (hi : i < n) : fX5_isDown now (nI i) = some (nI (1 - lfV v i)) := by
  have hn6 := hw.2.1
  obtain ⟨-, -, -, -, b4⟩ := hw.2.2.2.2.2.2.2 i hi
  obtain ⟨-, -, -, -, p4⟩ := p35 ha (i := i) (by omega)
  unfold fX5_isDown
  rw [p4, bd1_s]
  rcases (show lfV v i = 0 ∨ lfV v i = 1 by omega) with e | e
  · rw [e, if_pos (by decide)]; rfl
  · rw [e, if_neg (by decide)]; rfl
theorem c_wt_L (hs : SL size need lifted licked morning tally kinds places lengths downs covers v n) (hw : WF v n B) {s p : Nat} (hsl : s < 2 ^ 31) (hp : p ≤ 12) : ∀ (m k fuel : Nat), k + m = n → m < fuel → fX4_chanceOf_L5 size lifted (nI s) (nI p) fuel (lN (wtN (lfN v n) s p k)) (nI k) = some (lN (wtN (lfN v n) s p n)) := by
  have hn6 := hw.2.1
  have h8 : ∀ i, i < n → lfV v i < 2 := fun i hi => (hw.2.2.2.2.2.2.2 i hi).2.2.2.2
  intro m
  induction m with
  | zero =>
    intro k fuel h1 h2
    obtain ⟨f, rfl⟩ : ∃ f, fuel = f + 1 := ⟨fuel - 1, by omega⟩
    have hk : k = n := by omega
    subst hk
    show fX4_chanceOf_B5 _ _ _ _ _ _ _ = _
    unfold fX4_chanceOf_B5
    rw [hs.1, if_pos (nI_le (Nat.le_refl k) (by omega))]
  | succ m ih =>
    intro k fuel h1 h2
    obtain ⟨f, rfl⟩ : ∃ f, fuel = f + 1 := ⟨fuel - 1, by omega⟩
    have hb := h8 k (by omega)
    have c0 : ¬ size ≤ nI k := by rw [hs.1]; exact nI_ge (by omega) (by omega)
    have el : fX3_isLifted lifted (nI k) = some (nI (lfV v k)) := by rw [hs.2.2.1]; exact c_isLifted hw (by omega)
    have eb : fX4_bit (nI s) (nI k) = some (nI (s / 2 ^ k % 2)) := by unfold fX4_bit; rw [n_bit hsl (by omega)]
    have hi := ih (k + 1) f (by omega) (by omega)
    rw [wtN, lfN_bit h8 k (by omega)] at hi
    have e12 : (12 : Int32) - nI p = nI (12 - p) := nI_sub (a := 12) hp
    show fX4_chanceOf_B5 _ _ _ _ _ _ _ = _
    unfold fX4_chanceOf_B5 fX4_chanceOf_j50 fX4_chanceOf_j52
    rw [if_neg c0, el, bd1_s]
    rcases (show lfV v k = 0 ∨ lfV v k = 1 by omega) with e | e
    · rw [e, if_neg (by decide)] at hi
      rw [e, if_pos (by decide), eb, bd1_s]
      by_cases c : s / 2 ^ k % 2 = 1
      · rw [if_pos c] at hi
        rw [if_pos (by rw [c]; rfl), nI_l (by omega), lN_mul, nI_1]
        exact hi
      · rw [if_neg c] at hi
        rw [if_neg (fun z => c ((nI_eq1 (by omega)).mp z)), e12, nI_l (by omega), lN_mul, nI_1]
        exact hi
    · rw [e, if_pos rfl, Nat.mul_one] at hi
      rw [e, if_neg (by decide), nI_1]
      exact hi
theorem c_wt (hs : SL size need lifted licked morning tally kinds places lengths downs covers v n) (hw : WF v n B) {s p : Nat} (hsl : s < 2 ^ 31) (hp : p ≤ 12) : fX4_chanceOf size lifted (nI s) (nI p) = some (lN (wtN (lfN v n) s p n)) := by
  have e : fX4_chanceOf_L5 size lifted (nI s) (nI p) FU 1 0 = _ := c_wt_L hs hw hsl hp n 0 FU (by omega) (Nat.lt_of_le_of_lt hw.2.1 (by decide))
  unfold fX4_chanceOf
  rw [e, bd1_s]
theorem m_wt_L (ha : AR now v) (hw : WF v n B) {s p : Nat} (hsl : s < 2 ^ 31) (hp : p ≤ 12) : ∀ (m k fuel : Nat), k + m = n → m < fuel → fX5_chances_L81 now (nI p) (nI s) fuel (lN (wtN (lfN v n) s p k)) (nI k) = some (lN (wtN (lfN v n) s p n)) := by
  have hn6 := hw.2.1
  have h8 : ∀ i, i < n → lfV v i < 2 := fun i hi => (hw.2.2.2.2.2.2.2 i hi).2.2.2.2
  intro m
  induction m with
  | zero =>
    intro k fuel h1 h2
    obtain ⟨f, rfl⟩ : ∃ f, fuel = f + 1 := ⟨fuel - 1, by omega⟩
    have hk : k = n := by omega
    subst hk
    show fX5_chances_B81 _ _ _ _ _ _ = _
    unfold fX5_chances_B81
    rw [r35_1 ha, bd1_s, hw.1, if_pos (nI_le (Nat.le_refl k) (by omega))]
  | succ m ih =>
    intro k fuel h1 h2
    obtain ⟨f, rfl⟩ : ∃ f, fuel = f + 1 := ⟨fuel - 1, by omega⟩
    have hb := h8 k (by omega)
    have hi := ih (k + 1) f (by omega) (by omega)
    rw [wtN, lfN_bit h8 k (by omega)] at hi
    have e12 : (12 : Int32) - nI p = nI (12 - p) := nI_sub (a := 12) hp
    have e1 : ∀ x, lN x * 1 = lN x := fun x => by have := lN_mul x 1; rw [Nat.mul_one] at this; exact this
    show fX5_chances_B81 _ _ _ _ _ _ = _
    unfold fX5_chances_B81 fX5_chances_j127
    rw [r35_1 ha, bd1_s, hw.1, if_neg (nI_ge (by omega) (by omega)), m_isDown ha hw (by omega), bd1_s]
    rcases (show lfV v k = 0 ∨ lfV v k = 1 by omega) with e | e
    · rw [e, if_neg (by decide)] at hi
      rw [e, if_neg (by decide), m_has hsl (by omega), bd1_s]
      by_cases c : s / 2 ^ k % 2 = 1
      · rw [if_pos c] at hi
        rw [if_neg (by rw [c]; decide), nI_l (by omega), lN_mul, nI_1]
        exact hi
      · rw [if_neg c] at hi
        rw [if_pos ((nI_eq0 (by omega)).mpr (by omega)), e12, nI_l (by omega), lN_mul, nI_1]
        exact hi
    · rw [e, if_pos rfl, Nat.mul_one] at hi
      rw [e, if_pos (by decide), e1, nI_1]
      exact hi
theorem m_bl_L (ha : AR now v) (hw : WF v n B) : ∀ (m k fuel : Nat), k + m = n → m < fuel → fX5_chances_L8 now fuel (lN (blN (lfN v n) k)) (nI k) = some (lN (blN (lfN v n) n)) := by
  have hn6 := hw.2.1
  have h8 : ∀ i, i < n → lfV v i < 2 := fun i hi => (hw.2.2.2.2.2.2.2 i hi).2.2.2.2
  intro m
  induction m with
  | zero =>
    intro k fuel h1 h2
    obtain ⟨f, rfl⟩ : ∃ f, fuel = f + 1 := ⟨fuel - 1, by omega⟩
    have hk : k = n := by omega
    subst hk
    show fX5_chances_B8 _ _ _ _ = _
    unfold fX5_chances_B8
    rw [r35_1 ha, bd1_s, hw.1, if_pos (nI_le (Nat.le_refl k) (by omega))]
  | succ m ih =>
    intro k fuel h1 h2
    obtain ⟨f, rfl⟩ : ∃ f, fuel = f + 1 := ⟨fuel - 1, by omega⟩
    have hb := h8 k (by omega)
    have hi := ih (k + 1) f (by omega) (by omega)
    rw [blN, lfN_bit h8 k (by omega)] at hi
    have e1 : ∀ x, lN x * 1 = lN x := fun x => by have := lN_mul x 1; rw [Nat.mul_one] at this; exact this
    have e12 : ∀ x, lN x * 12 = lN (x * 12) := fun x => lN_mul x 12
    show fX5_chances_B8 _ _ _ _ = _
    unfold fX5_chances_B8 fX5_chances_j37
    rw [r35_1 ha, bd1_s, hw.1, if_neg (nI_ge (by omega) (by omega)), m_isDown ha hw (by omega), bd1_s]
    rcases (show lfV v k = 0 ∨ lfV v k = 1 by omega) with e | e
    · rw [e, if_neg (by decide)] at hi
      rw [e, if_neg (by decide), e12, nI_1]
      exact hi
    · rw [e, if_pos rfl, Nat.mul_one] at hi
      rw [e, if_pos (by decide), e1, nI_1]
      exact hi
theorem lf_lt (hw : WF v n B) : lfN v n < 2 ^ n := lfN_lt (fun i hi => (hw.2.2.2.2.2.2.2 i hi).2.2.2.2)
theorem c_bu_L (hs : SL size need lifted licked morning tally kinds places lengths downs covers v n) (hw : WF v n B) (hn : 0 < n) {p x : Nat} (hp : p ≤ 12) {C : Nat → Nat} (hC : ∀ y, C y ≤ 16) (hCx : ∀ y, y < 256 → bitc (nI y &&& nI x) = nI (C y)) {M : Nat} (hM : M = 2 ^ n) {kinds' places' lengths' downs' covers' : Nat → Int32} (hT : SL size need lifted licked morning tally kinds' places' lengths' downs' covers' v n) : ∀ (m k fuel : Nat) (lf : Int32), k + m = M → m < fuel → ∃ lf', fX4_tellBurnt_L28 size lifted size need licked covers' (nI x) (nI p) (nI (M - 1)) fuel lf (lN (upS v C (lfN v n) n p k)) (lN (lwN (lfN v n) n p k)) (nI k) = some (lf', lN (upS v C (lfN v n) n p M), lN (lwN (lfN v n) n p M)) := by
  have hn6 := hw.2.1
  have h64 := pow6 hn6
  have hM0 : 0 < M := by rw [hM]; exact Nat.two_pow_pos n
  have hlf := lf_lt hw
  rw [← hM] at h64 hlf
  intro m
  induction m with
  | zero =>
    intro k fuel lf h1 h2
    obtain ⟨f, rfl⟩ : ∃ f, fuel = f + 1 := ⟨fuel - 1, by omega⟩
    have hk : k = M := by omega
    refine ⟨lf, ?_⟩
    rw [hk]
    show fX4_tellBurnt_B28 _ _ _ _ _ _ _ _ _ _ _ _ _ _ = _
    unfold fX4_tellBurnt_B28
    rw [if_pos (nI_lt (by omega) (by omega))]
  | succ m ih =>
    intro k fuel lf h1 h2
    obtain ⟨f, rfl⟩ : ∃ f, fuel = f + 1 := ⟨fuel - 1, by omega⟩
    have hU : upS v C (lfN v n) n p (k + 1) = upS v C (lfN v n) n p k + (if k &&& lfN v n = 0 then wtN (lfN v n) k p n * C (lnsN (v 0) (cdV v k)) else 0) := rfl
    have hW : lwN (lfN v n) n p (k + 1) = lwN (lfN v n) n p k + (if k &&& lfN v n = 0 then wtN (lfN v n) k p n else 0) := rfl
    have hor : lfN v n ||| k < 2 ^ n := Nat.or_lt_two_pow (by rw [← hM]; exact hlf) (by rw [← hM]; omega)
    have hand := Nat.and_le_left (n := k) (m := lfN v n)
    have eand : nI k &&& lifted = nI (k &&& lfN v n) := by rw [hs.2.2.1, n_and]
    have u4 : fX4_tellBurnt_L28 size lifted size need licked covers' (nI x) (nI p) (nI (M - 1)) (f + 1) lf (lN (upS v C (lfN v n) n p k)) (lN (lwN (lfN v n) n p k)) (nI k) = fX4_tellBurnt_B28 size lifted size need licked covers' (nI x) (nI p) (nI (M - 1)) (fX4_tellBurnt_L28 size lifted size need licked covers' (nI x) (nI p) (nI (M - 1)) f) lf (lN (upS v C (lfN v n) n p k)) (lN (lwN (lfN v n) n p k)) (nI k) := rfl
    rw [u4]
    unfold fX4_tellBurnt_B28 fX4_tellBurnt_j104
    rw [if_neg (nI_nlt (by omega) (by omega)), eand]
    by_cases c : k &&& lfN v n = 0
    · rw [if_pos c] at hU hW
      obtain ⟨lf', hi⟩ := ih (k + 1) f (nI (lfN v n ||| k)) (by omega) (by omega)
      refine ⟨lf', ?_⟩
      have eor : lifted ||| nI k = nI (lfN v n ||| k) := by rw [hs.2.2.1, n_or]
      have el : fX3_linesNow size need (nI (lfN v n ||| k)) licked covers' = some (nI (lnsN (v 0) (cdV v k))) := by
        have := c_linesNow (lt_SL hT hor) (lt_WF (lfN v n ||| k) hw) hn
        rw [lt_li hw k] at this
        exact this
      have hc := hC (lnsN (v 0) (cdV v k))
      rw [if_pos (by rw [c]; rfl), c_wt hs hw (by omega) hp, bd1_s, eor, el, bd1_s, hCx _ (lnsN_lt _ _), nI_l (by omega), lN_mul, lN_add, lN_add, nI_1]
      rw [hU, hW] at hi
      exact hi
    · rw [if_neg c, Nat.add_zero] at hU hW
      obtain ⟨lf', hi⟩ := ih (k + 1) f lf (by omega) (by omega)
      refine ⟨lf', ?_⟩
      rw [if_neg (fun z => c ((nI_eq0 (by omega)).mp z)), nI_1]
      rw [hU, hW] at hi
      exact hi
theorem m_bu_L (ha : AR now v) (hw : WF v n B) {p : Nat} (hp : p ≤ 12) {x1 : Int32} {C : Nat → Nat} (hC : ∀ y, C y ≤ 16) (hCx : ∀ y, y < 256 → (if 0 ≤ x1 then some ((nI y >>> (x1 &&& 31)) &&& 1) else fX5_ones (nI y)) = some (nI (C y))) {M : Nat} (hM : M = 2 ^ n) : ∀ (m k fuel : Nat), k + m = M → m < fuel → fX5_chances_L49 now x1 (nI p) fuel (lN (upS v C (lfN v n) n p k)) (nI k) = some (lN (upS v C (lfN v n) n p M)) := by
  have hn6 := hw.2.1
  have h64 := pow6 hn6
  have hlf := lf_lt hw
  have hM1 : (1 : Int32) <<< (nI n &&& 31) = nI M := by rw [hM]; exact sh1 (by omega)
  rw [← hM] at h64 hlf
  intro m
  induction m with
  | zero =>
    intro k fuel h1 h2
    obtain ⟨f, rfl⟩ : ∃ f, fuel = f + 1 := ⟨fuel - 1, by omega⟩
    have hk : k = M := by omega
    rw [hk]
    show fX5_chances_B49 _ _ _ _ _ _ = _
    unfold fX5_chances_B49
    rw [r35_1 ha, bd1_s, hw.1, hM1, if_pos (nI_le (Nat.le_refl M) (by omega))]
  | succ m ih =>
    intro k fuel h1 h2
    obtain ⟨f, rfl⟩ : ∃ f, fuel = f + 1 := ⟨fuel - 1, by omega⟩
    have hU : upS v C (lfN v n) n p (k + 1) = upS v C (lfN v n) n p k + (if k &&& lfN v n = 0 then wtN (lfN v n) k p n * C (lnsN (v 0) (cdV v k)) else 0) := rfl
    have hand := Nat.and_le_left (n := k) (m := lfN v n)
    have hi := ih (k + 1) f (by omega) (by omega)
    show fX5_chances_B49 _ _ _ _ _ _ = _
    unfold fX5_chances_B49 fX5_chances_j175 fX5_chances_j179
    rw [r35_1 ha, bd1_s, hw.1, hM1, if_neg (nI_ge (by omega) (by omega)), m_lifted ha hw, bd1_s, n_and]
    by_cases c : k &&& lfN v n = 0
    · rw [if_pos c] at hU
      have ew : fX5_chances_L81 now (nI p) (nI k) FU 1 0 = _ := m_wt_L ha hw (s := k) (by omega) hp n 0 FU (by omega) (Nat.lt_of_le_of_lt hn6 (by decide))
      have hc := hC (lnsN (v 0) (cdV v k))
      have hx := hCx _ (lnsN_lt (v 0) (cdV v k))
      rw [if_pos (by rw [c]; rfl), ew, bd1_s, m_coveredBut ha hw (by omega), bd1_s, m_linesOf ha hw (cdV_lt hw k), bd1_s, nI_1]
      rw [hU] at hi
      by_cases c1 : 0 ≤ x1
      · rw [if_pos c1] at hx
        rw [if_pos c1, Option.some.inj hx, nI_l (by omega), lN_mul, lN_add]
        exact hi
      · rw [if_neg c1] at hx
        rw [if_neg c1, hx, bd1_s, nI_l (by omega), lN_mul, lN_add]
        exact hi
    · rw [if_neg c, Nat.add_zero] at hU
      rw [if_neg (fun z => c ((nI_eq0 (by omega)).mp z)), nI_1]
      rw [hU] at hi
      exact hi
/-- chances, on both sides -/
theorem bu_eq (hs : SL size need lifted licked morning tally kinds places lengths downs covers v n) (hw : WF v n B) (ha : AR now v) (hn : 0 < n) {p x : Nat} (hp : p ≤ 12) {x1 : Int32} {C : Nat → Nat} (hC : ∀ y, C y ≤ 16) (hC4 : ∀ y, y < 256 → bitc (nI y &&& nI x) = nI (C y)) (hC5 : ∀ y, y < 256 → (if 0 ≤ x1 then some ((nI y >>> (x1 &&& 31)) &&& 1) else fX5_ones (nI y)) = some (nI (C y))) (up lo : Int64) (b1 b2 b3 b4 b5 : Nat → Int32) :
    ∃ u l sz nd lf lk mo ta kn pl ln dn cv, fX4_tellBurnt up lo size need lifted licked morning tally kinds places lengths downs covers b1 b2 b3 b4 b5 (nI x) (nI p) = some (u, l, sz, nd, lf, lk, mo, ta, kn, pl, ln, dn, cv) ∧ fX5_chances now x1 (nI p) = some (1, u, l) := by
  have hn6 := hw.2.1
  have h64 := pow6 hn6
  obtain ⟨k1, p1, l1, d1, v1, et, hT⟩ := c_take b1 b2 b3 b4 b5 (o_size := size) (o_need := need) (o_lifted := lifted) (o_licked := licked) (o_morning := morning) (o_tally := tally) (o_kinds := kinds) (o_places := places) (o_lengths := lengths) (o_downs := downs) (o_covers := covers)
  obtain ⟨lf', e4⟩ := c_bu_L hs hw hn hp hC hC4 (M := 2 ^ n) rfl (hT v n hn6 hs) (2 ^ n) 0 FU lifted (by omega) (Nat.lt_of_le_of_lt h64 (by decide))
  have e4 : fX4_tellBurnt_L28 size lifted size need licked v1 (nI x) (nI p) (nI (2 ^ n - 1)) FU lifted 0 0 0 = _ := e4
  have e5 : fX5_chances_L49 now x1 (nI p) FU 0 0 = _ := m_bu_L ha hw hp hC hC5 (M := 2 ^ n) rfl (2 ^ n) 0 FU (by omega) (Nat.lt_of_le_of_lt h64 (by decide))
  have e8 : fX5_chances_L8 now FU 1 0 = _ := m_bl_L ha hw n 0 FU (by omega) (Nat.lt_of_le_of_lt hn6 (by decide))
  have hlw := lw_ok hn6 (lf_lt hw) hp
  obtain ⟨g0, g1⟩ := bl_b (lfN v n) n
  have g2 : 12 ^ n ≤ 12 ^ 6 := Nat.pow_le_pow_right (by decide) hn6
  have hup := up_le v hC (lfN v n) n p (2 ^ n)
  rw [hlw] at hup e4
  obtain ⟨t4, t5⟩ := tc_all up lo (a := upS v C (lfN v n) n p (2 ^ n)) (b := blN (lfN v n) n) (by omega) g0 (by omega)
  exact ⟨_, _, _, _, _, _, _, _, _, _, _, _, _, by unfold fX4_tellBurnt; rw [et, bd11_s, c_allPeels hs hw, bd1_s, e4, bd3_s, t4, bd2_s], by unfold fX5_chances; rw [e8, bd1_s, e5, bd1_s, t5, bd3_s]⟩
theorem and_pc : ((List.range 256).all fun x => (List.range 8).all fun l => Nat.beq (pcN (x &&& 2 ^ l)) (x / 2 ^ l % 2)) = true := by decide +kernel
theorem and_pc_ok {x l : Nat} (hx : x < 256) (hl : l < 8) : pcN (x &&& 2 ^ l) = x / 2 ^ l % 2 := by
  have h1 := List.all_eq_true.mp and_pc x (List.mem_range.mpr hx)
  have h2 := List.all_eq_true.mp h1 l (List.mem_range.mpr hl)
  exact Nat.eq_of_beq_eq_true h2
theorem in13_0 {x : Int32} (h : x < 0 ∨ nI 13 ≤ x) : fX5_in0 x 0 12 = some 0 ∧ (x < 0 ∨ ¬ x ≤ 12) := by
  refine ⟨(inK0 (k := 12) (by decide) h).2, ?_⟩
  rcases h with h | h
  · exact Or.inl h
  · exact Or.inr (i_gt (k := 12) (by decide) h)
theorem fl_odds (hs : SL size need lifted licked morning tally kinds places lengths downs covers v n) (hw : WF v n B) (ha : AR now v) (up lo : Int64) (a1 a2 a3 a4 a5 a6' : Int32) (b1 b2 b3 b4 b5 : Nat → Int32) (x1 x2 : Int32) :
    ∃ r u l sz nd lf lk mo ta kn pl ln dn cv, fX4_odds up lo size need lifted licked morning tally kinds places lengths downs covers a1 a2 a3 a4 a5 a6' b1 b2 b3 b4 b5 x1 x2 = some (r, u, l, sz, nd, lf, lk, mo, ta, kn, pl, ln, dn, cv) ∧ fX5_odds up lo now x1 x2 = some (r, u, l) := by
  rcases spl x1 (k := 8) (by decide) with ⟨l, hl, rfl⟩ | hx
  rotate_left
  · exact ⟨_, _, _, _, _, _, _, _, _, _, _, _, _, _, by unfold fX4_odds; rw [(in8_0 hx).1, bd1_s, if_pos rfl], by unfold fX5_odds; rw [(in8_0 hx).2, bd1_s, if_pos rfl]⟩
  rcases spl x2 (k := 13) (by decide) with ⟨p, hp, rfl⟩ | hx
  rotate_left
  · obtain ⟨z5, z4⟩ := in13_0 hx
    refine ⟨-1, up, lo, a1, a2, a3, a4, a5, a6', b1, b2, b3, b4, b5, ?_, by unfold fX5_odds; rw [(in8_1 hl).2, bd1_s, if_neg one_ne, z5, bd1_s, if_pos rfl]⟩
    unfold fX4_odds
    rw [(in8_1 hl).1, bd1_s, if_neg one_ne]
    by_cases c : x2 < 0
    · rw [if_pos c]
    · rcases z4 with z4 | z4
      · exact absurd z4 c
      · rw [if_neg c, if_neg z4]
  have z5 : fX5_in0 (nI p) 0 12 = some 1 := (inK1 (k := 12) (by decide) (by omega)).2
  have q1 : ¬ nI p < 0 := nI_pos (by omega)
  have q2 : nI p ≤ 12 := nI_le (b := 12) (by omega) (by decide)
  by_cases n0 : n = 0
  · exact ⟨_, _, _, _, _, _, _, _, _, _, _, _, _, _, by unfold fX4_odds; rw [(in8_1 hl).1, bd1_s, if_neg one_ne, if_neg q1, if_pos q2, if_pos (c_any0 hs n0)], by unfold fX5_odds; rw [(in8_1 hl).2, bd1_s, if_neg one_ne, z5, bd1_s, if_neg one_ne, m_any0 ha hw n0, bd1_s, if_pos rfl]⟩
  obtain ⟨u, w, sz, nd, lf, lk, mo, ta, kn, pl, ln, dn, cv, e4, e5⟩ := bu_eq hs hw ha (by omega) (p := p) (x := 2 ^ l) (x1 := nI l) (C := fun y => y / 2 ^ l % 2) (by omega) (fun y => by
      have : y / 2 ^ l % 2 < 2 := Nat.mod_lt _ (by decide)
      show y / 2 ^ l % 2 ≤ 16
      omega) (fun y hy => by
      have := Nat.and_le_left (n := y) (m := 2 ^ l)
      rw [n_and, bitc_n (by omega), and_pc_ok hy hl]) (fun y hy => by
      rw [if_pos (nI_pos' (by omega)), n_bit (by omega) (by omega)]) up lo b1 b2 b3 b4 b5
  exact ⟨_, _, _, _, _, _, _, _, _, _, _, _, _, _, by unfold fX4_odds; rw [(in8_1 hl).1, bd1_s, if_neg one_ne, if_neg q1, if_pos q2, if_neg (c_any1 hs hw n0), sh1 (by omega), e4, bd13_s], by unfold fX5_odds; rw [(in8_1 hl).2, bd1_s, if_neg one_ne, z5, bd1_s, if_neg one_ne, m_any1 ha hw n0, bd1_s, if_neg one_ne, e5, bd3_s]⟩
theorem fl_mid (hs : SL size need lifted licked morning tally kinds places lengths downs covers v n) (hw : WF v n B) (ha : AR now v) (up lo : Int64) (a1 a2 a3 a4 a5 a6' : Int32) (b1 b2 b3 b4 b5 : Nat → Int32) (x1 : Int32) :
    ∃ r u l sz nd lf lk mo ta kn pl ln dn cv, fX4_mid up lo size need lifted licked morning tally kinds places lengths downs covers a1 a2 a3 a4 a5 a6' b1 b2 b3 b4 b5 x1 = some (r, u, l, sz, nd, lf, lk, mo, ta, kn, pl, ln, dn, cv) ∧ fX5_mid up lo now x1 = some (r, u, l) := by
  rcases spl x1 (k := 13) (by decide) with ⟨p, hp, rfl⟩ | hx
  rotate_left
  · obtain ⟨z5, z4⟩ := in13_0 hx
    refine ⟨-1, up, lo, a1, a2, a3, a4, a5, a6', b1, b2, b3, b4, b5, ?_, by unfold fX5_mid; rw [z5, bd1_s, if_pos rfl]⟩
    unfold fX4_mid
    by_cases c : x1 < 0
    · rw [if_pos c]
    · rcases z4 with z4 | z4
      · exact absurd z4 c
      · rw [if_neg c, if_neg z4]
  have z5 : fX5_in0 (nI p) 0 12 = some 1 := (inK1 (k := 12) (by decide) (by omega)).2
  have q1 : ¬ nI p < 0 := nI_pos (by omega)
  have q2 : nI p ≤ 12 := nI_le (b := 12) (by omega) (by decide)
  by_cases n0 : n = 0
  · exact ⟨_, _, _, _, _, _, _, _, _, _, _, _, _, _, by unfold fX4_mid; rw [if_neg q1, if_pos q2, if_pos (c_any0 hs n0)], by unfold fX5_mid; rw [z5, bd1_s, if_neg one_ne, m_any0 ha hw n0, bd1_s, if_pos rfl]⟩
  obtain ⟨u, w, sz, nd, lf, lk, mo, ta, kn, pl, ln, dn, cv, e4, e5⟩ := bu_eq hs hw ha (by omega) (p := p) (x := 255) (x1 := -1) (C := pcN) (by omega) pcN_le (fun y hy => by
      rw [n_and, Nat.and_comm, show 255 &&& y = y from and_all (n := 8) hy, bitc_n (by omega)]) (fun y hy => by
      rw [if_neg (by decide), ones_n (by omega)]) up lo b1 b2 b3 b4 b5
  have e4 : fX4_tellBurnt up lo size need lifted licked morning tally kinds places lengths downs covers b1 b2 b3 b4 b5 255 (nI p) = _ := e4
  exact ⟨_, _, _, _, _, _, _, _, _, _, _, _, _, _, by unfold fX4_mid; rw [if_neg q1, if_pos q2, if_neg (c_any1 hs hw n0), e4, bd13_s], by unfold fX5_mid; rw [z5, bd1_s, if_neg one_ne, m_any1 ha hw n0, bd1_s, if_neg one_ne, e5, bd3_s]⟩
end
theorem step_odds : Step_odds Rel := by
  intro c d h x1 x2
  obtain ⟨⟨a1, a2, a3, a4, a5⟩, hB, hC, n, V, q, k, hD⟩ := h
  obtain ⟨hw, hs, ha, hk, -⟩ := hD.get
  obtain ⟨r, u, l, sz, nd, lf, lk, mo, ta, kn, pl, ln, dn, cv, e4, e5⟩ := fl_odds hs hw ha (ms_upper d) (ms_lower d) (cs_as_size c) (cs_as_need c) (cs_as_lifted c) (cs_as_licked c) (cs_as_morning c) (cs_as_tally c) (cs_as_kinds c) (cs_as_places c) (cs_as_lengths c) (cs_as_downs c) (cs_as_covers c) x1 x2
  rw [← a3, ← a4] at e4
  exact go2 (map_some e4) (map_some e5) rfl ⟨⟨a1, a2, rfl, rfl, a5⟩, hB, hC, n, V, q, k, hD⟩
theorem step_mid : Step_mid Rel := by
  intro c d h x1
  obtain ⟨⟨a1, a2, a3, a4, a5⟩, hB, hC, n, V, q, k, hD⟩ := h
  obtain ⟨hw, hs, ha, hk, -⟩ := hD.get
  obtain ⟨r, u, l, sz, nd, lf, lk, mo, ta, kn, pl, ln, dn, cv, e4, e5⟩ := fl_mid hs hw ha (ms_upper d) (ms_lower d) (cs_as_size c) (cs_as_need c) (cs_as_lifted c) (cs_as_licked c) (cs_as_morning c) (cs_as_tally c) (cs_as_kinds c) (cs_as_places c) (cs_as_lengths c) (cs_as_downs c) (cs_as_covers c) x1
  rw [← a3, ← a4] at e4
  exact go2 (map_some e4) (map_some e5) rfl ⟨⟨a1, a2, rfl, rfl, a5⟩, hB, hC, n, V, q, k, hD⟩
