/-! ===== pure: sets that fit; sets, surely ===== -/
def ctP (P : Nat → Bool) : Nat → Nat
  | 0 => 0
  | k + 1 => if P k = true then ctP P k + 1 else ctP P k
def leP (P : Nat → Bool) : Nat → Int32
  | 0 => -9
  | k + 1 => if P k = true then (if ctP P k = 0 then nI k else leP P k) else leP P k
def alP (P : Nat → Bool) (a : Nat) : Nat → Nat
  | 0 => a
  | k + 1 => if P k = true then alP P a k &&& k else alP P a k
def anP (P : Nat → Bool) : Nat → Nat
  | 0 => 0
  | k + 1 => if P k = true then anP P k ||| k else anP P k
section
variable {P : Nat → Bool} {k a b : Nat}
theorem ctP_1 (h : P k = true) : ctP P (k + 1) = ctP P k + 1 := by rw [ctP, if_pos h]
theorem ctP_0 (h : ¬ P k = true) : ctP P (k + 1) = ctP P k := by rw [ctP, if_neg h]
theorem leP_1 (h : P k = true) : leP P (k + 1) = if ctP P k = 0 then nI k else leP P k := by rw [leP, if_pos h]
theorem leP_0 (h : ¬ P k = true) : leP P (k + 1) = leP P k := by rw [leP, if_neg h]
theorem alP_1 (h : P k = true) : alP P a (k + 1) = alP P a k &&& k := by rw [alP, if_pos h]
theorem alP_0 (h : ¬ P k = true) : alP P a (k + 1) = alP P a k := by rw [alP, if_neg h]
theorem anP_1 (h : P k = true) : anP P (k + 1) = anP P k ||| k := by rw [anP, if_pos h]
theorem anP_0 (h : ¬ P k = true) : anP P (k + 1) = anP P k := by rw [anP, if_neg h]
end
theorem ctP_le (P : Nat → Bool) : ∀ k, ctP P k ≤ k
  | 0 => Nat.le_refl 0
  | k + 1 => by
    have := ctP_le P k
    rw [ctP]
    split <;> omega
/-- when some fit, where the meet began is no matter, if all that fit lie in it -/
theorem alP_eq {P : Nat → Bool} {a b : Nat} : ∀ {k : Nat}, (∀ x, x < k → P x = true → a &&& x = x ∧ b &&& x = x) → (ctP P k = 0 ∧ alP P a k = a ∧ alP P b k = b) ∨ (0 < ctP P k ∧ alP P a k = alP P b k)
  | 0, _ => Or.inl ⟨rfl, rfl, rfl⟩
  | k + 1, h => by
    have ih := alP_eq (P := P) (a := a) (b := b) (k := k) (fun x hx => h x (by omega))
    by_cases c : P k = true
    · rw [ctP_1 c, alP_1 c, alP_1 c]
      refine Or.inr ⟨by omega, ?_⟩
      rcases ih with ⟨-, e1, e2⟩ | ⟨-, e⟩
      · rw [e1, e2, (h k (by omega) c).1, (h k (by omega) c).2]
      · rw [e]
    · rw [ctP_0 c, alP_0 c, alP_0 c]
      exact ih
theorem add_P {P : Nat → Bool} {k a : Nat} (hk : k < 2 ^ 31) (h : P k = true) : fX1_add (nI (ctP P k)) (leP P k) (nI (alP P a k)) (nI (anP P k)) (nI k) = some (nI (ctP P (k + 1)), leP P (k + 1), nI (alP P a (k + 1)), nI (anP P (k + 1))) := by
  have hc := ctP_le P k
  unfold fX1_add fX1_add_j12
  rw [ctP_1 h, leP_1 h, alP_1 h, anP_1 h, nI_1, n_and, n_or]
  by_cases c : ctP P k = 0
  · rw [if_pos (by rw [c]; rfl), if_pos c]
  · rw [if_neg (fun z => c ((nI_eq0 (by omega)).mp z)), if_neg c]
theorem tc_1 (u l : Int64) {c : Nat} (hc : c < 2 ^ 31) : fX4_tellChance u l (Int32.toInt64 (nI c)) 1 = some (Int32.toInt64 (nI c), 1) := by
  have hL : ∀ f, fX4_tellChance_L9 (f + 2) (lN c) 1 0 = some 1 := by
    intro f
    have e : lN c - lN c / 1 * 1 = 0 := by
      have := pk_lRem (a := c) (b := 1) (by omega) (by decide) (by decide)
      rw [Nat.mod_one] at this
      exact this
    show fX4_tellChance_B9 (fX4_tellChance_L9 (f + 1)) (lN c) 1 0 = some 1
    unfold fX4_tellChance_B9
    rw [if_neg (by decide), if_neg (by decide), if_neg (by decide), e]
    show fX4_tellChance_B9 (fX4_tellChance_L9 f) 1 0 (0 + 1) = some 1
    unfold fX4_tellChance_B9
    rw [if_neg (by decide), if_pos (by decide)]
  have hL' : fX4_tellChance_L9 FU (lN c) 1 0 = some 1 := hL 99998
  have ed : lN c / 1 = lN c := by
    have := pk_lDiv (a := c) (b := 1) (by omega) (by decide) (by decide)
    rw [Nat.div_one] at this
    exact this
  have e1 : (1 : Int64) / 1 = 1 := by decide
  unfold fX4_tellChance
  rw [nI_l hc, hL', bd1_s, if_neg (by decide), if_neg (by decide), if_neg (by decide), ed, e1]
def lsN (v : Nat → Nat) (s n : Nat) : Nat := sumN (fun i => s / 2 ^ i % 2 * lnV v i) n
theorem and_all {x n : Nat} (h : x < 2 ^ n) : (2 ^ n - 1) &&& x = x := by
  rw [Nat.and_comm, Nat.and_two_pow_sub_one_eq_mod, Nat.mod_eq_of_lt h]
theorem and_m1 {x : Nat} (h : x < 2 ^ 32) : 4294967295 &&& x = x := and_all (n := 32) h
section
variable {size need lifted licked morning tally : Int32} {kinds places lengths downs covers now : Nat → Int32} {v : Nat → Nat} {n B : Nat}
theorem c_len_L (hs : SL size need lifted licked morning tally kinds places lengths downs covers v n) (hw : WF v n B) {s : Nat} (hsl : s < 2 ^ 31) : ∀ (m k fuel : Nat), k + m = n → m < fuel → fX3_lengthOfAll_L4 size lengths (nI s) fuel (nI (lsN v s k)) (nI k) = some (nI (lsN v s n)) := by
  have hn6 := hw.2.1
  intro m
  induction m with
  | zero =>
    intro k fuel h1 h2
    obtain ⟨f, rfl⟩ : ∃ f, fuel = f + 1 := ⟨fuel - 1, by omega⟩
    have hk : k = n := by omega
    subst hk
    show fX3_lengthOfAll_B4 _ _ _ _ _ _ = _
    unfold fX3_lengthOfAll_B4
    rw [hs.1, if_pos (nI_le (Nat.le_refl k) (by omega))]
  | succ m ih =>
    intro k fuel h1 h2
    obtain ⟨f, rfl⟩ : ∃ f, fuel = f + 1 := ⟨fuel - 1, by omega⟩
    obtain ⟨-, -, s2, -, -⟩ := hs.2.2.2.2.2.2 k (by omega)
    have c6 : ¬ (6 : Int32) ≤ nI k := nI_ge (a := k) (b := 6) (by omega) (by decide)
    have c0 : ¬ size ≤ nI k := by rw [hs.1]; exact nI_ge (by omega) (by omega)
    have eb : fX4_bit (nI s) (nI k) = some (nI (s / 2 ^ k % 2)) := by unfold fX4_bit; rw [n_bit hsl (by omega)]
    show fX3_lengthOfAll_B4 _ _ _ _ _ _ = _
    unfold fX3_lengthOfAll_B4
    rw [if_neg c0, if_neg c6, eb, bd1_s, a6 (by omega), s2, bd1_s, nI_mul, nI_add, nI_1]
    exact ih (k + 1) f (by omega) (by omega)
theorem c_len (hs : SL size need lifted licked morning tally kinds places lengths downs covers v n) (hw : WF v n B) {s : Nat} (hsl : s < 2 ^ 31) : fX3_lengthOfAll size lengths (nI s) = some (nI (lsN v s n)) := by
  unfold fX3_lengthOfAll
  have e : fX3_lengthOfAll_L4 size lengths (nI s) FU 0 0 = _ := c_len_L hs hw hsl n 0 FU (by omega) (Nat.lt_of_le_of_lt hw.2.1 (by decide))
  rw [e, bd1_s]
theorem m_len_L (ha : AR now v) (hw : WF v n B) {s : Nat} (hsl : s < 2 ^ 31) : ∀ (m k fuel : Nat), k + m = n → m < fuel → fX5_lengthOf_L4 now (nI s) fuel (nI (lsN v s k)) (nI k) = some (nI (lsN v s n)) := by
  have hn6 := hw.2.1
  intro m
  induction m with
  | zero =>
    intro k fuel h1 h2
    obtain ⟨f, rfl⟩ : ∃ f, fuel = f + 1 := ⟨fuel - 1, by omega⟩
    have hk : k = n := by omega
    subst hk
    show fX5_lengthOf_B4 _ _ _ _ _ = _
    unfold fX5_lengthOf_B4
    rw [r35_1 ha, bd1_s, hw.1, if_pos (nI_le (Nat.le_refl k) (by omega))]
  | succ m ih =>
    intro k fuel h1 h2
    obtain ⟨f, rfl⟩ : ∃ f, fuel = f + 1 := ⟨fuel - 1, by omega⟩
    obtain ⟨-, -, p2, -, -⟩ := p35 ha (i := k) (by omega)
    have hr : ∀ z, z = s / 2 ^ k % 2 * lnV v k → fX5_lengthOf_L4 now (nI s) f (nI (lsN v s k) + nI z) (nI k + 1) = some (nI (lsN v s n)) := by
      intro z hz
      rw [nI_1, nI_add]
      have := ih (k + 1) f (by omega) (by omega)
      rw [show lsN v s (k + 1) = lsN v s k + z by rw [hz]; rfl] at this
      exact this
    show fX5_lengthOf_B4 _ _ _ _ _ = _
    unfold fX5_lengthOf_B4 fX5_lengthOf_j39
    rw [r35_1 ha, bd1_s, hw.1, if_neg (nI_ge (by omega) (by omega)), m_has hsl (by omega), bd1_s]
    by_cases c : s / 2 ^ k % 2 = 0
    · rw [if_pos (by rw [c]; rfl)]
      exact hr 0 (by rw [c]; simp)
    · have c1 : s / 2 ^ k % 2 = 1 := by omega
      rw [if_neg (by rw [c1]; decide), p2, bd1_s]
      exact hr (lnV v k) (by rw [c1]; simp)
theorem m_len (ha : AR now v) (hw : WF v n B) {s : Nat} (hsl : s < 2 ^ 31) : fX5_lengthOf now (nI s) = some (nI (lsN v s n)) := by
  unfold fX5_lengthOf
  have e : fX5_lengthOf_L4 now (nI s) FU 0 0 = _ := m_len_L ha hw hsl n 0 FU (by omega) (Nat.lt_of_le_of_lt hw.2.1 (by decide))
  rw [e, bd1_s]
theorem c_allPeels (hs : SL size need lifted licked morning tally kinds places lengths downs covers v n) (hw : WF v n B) : fX3_allPeels size = some (nI (2 ^ n - 1)) := by
  have hn6 := hw.2.1
  unfold fX3_allPeels
  rw [hs.1, sh1 (by omega)]
  exact congrArg some (nI_sub (b := 1) (Nat.two_pow_pos n))
theorem pow6 {n : Nat} (h : n ≤ 6) : 2 ^ n ≤ 64 := Nat.pow_le_pow_right (n := 2) (by decide) h
def lsP (v : Nat → Nat) (n x : Nat) (s : Nat) : Bool := decide (lsN v s n = x)
theorem lsN_lt (hw : WF v n B) (s : Nat) : lsN v s n < 2 ^ 31 := by
  have hn6 := hw.2.1
  have := sumN_le (fun i => s / 2 ^ i % 2 * lnV v i) 4 n (fun j hj => by
    have h4 := (hw.2.2.2.2.2.2.2 j hj).2.2.1.2
    have h2 : s / 2 ^ j % 2 < 2 := Nat.mod_lt _ (by decide)
    show s / 2 ^ j % 2 * lnV v j ≤ 4
    rcases (show s / 2 ^ j % 2 = 0 ∨ s / 2 ^ j % 2 = 1 by omega) with e | e <;> rw [e] <;> omega)
  unfold lsN
  omega
theorem c_fitLen_L (hs : SL size need lifted licked morning tally kinds places lengths downs covers v n) (hw : WF v n B) {M x : Nat} (hM : M ≤ 64) (hM0 : 0 < M) (hx : x < 2 ^ 31) : ∀ (m k fuel : Nat), k + m = M → m < fuel → fX4_fitLengthSets_L17 size lengths (nI x) (nI (M - 1)) fuel (nI (ctP (lsP v n x) k)) (leP (lsP v n x) k) (nI (alP (lsP v n x) 4294967295 k)) (nI (anP (lsP v n x) k)) (nI k) = some (nI (ctP (lsP v n x) M), leP (lsP v n x) M, nI (alP (lsP v n x) 4294967295 M), nI (anP (lsP v n x) M)) := by
  intro m
  induction m with
  | zero =>
    intro k fuel h1 h2
    obtain ⟨f, rfl⟩ : ∃ f, fuel = f + 1 := ⟨fuel - 1, by omega⟩
    have hk : k = M := by omega
    subst hk
    show fX4_fitLengthSets_B17 _ _ _ _ _ _ _ _ _ _ = _
    unfold fX4_fitLengthSets_B17
    rw [if_pos (nI_lt (by omega) (by omega))]
  | succ m ih =>
    intro k fuel h1 h2
    obtain ⟨f, rfl⟩ : ∃ f, fuel = f + 1 := ⟨fuel - 1, by omega⟩
    have hl := lsN_lt hw k
    have hi := ih (k + 1) f (by omega) (by omega)
    show fX4_fitLengthSets_B17 _ _ _ _ _ _ _ _ _ _ = _
    unfold fX4_fitLengthSets_B17 fX4_fitLengthSets_j42
    rw [if_neg (nI_nlt (by omega) (by omega)), c_len hs hw (by omega), bd1_s]
    by_cases c : lsN v k n = x
    · have cP : lsP v n x k = true := decide_eq_true c
      rw [if_pos (by rw [c]), add_P (by omega) cP, bd4_s, nI_1]
      exact hi
    · have cP : ¬ lsP v n x k = true := fun z => c (of_decide_eq_true z)
      rw [if_neg (nI_le4 hl hx c), nI_1]
      rw [ctP_0 cP, leP_0 cP, alP_0 cP, anP_0 cP] at hi
      exact hi
theorem c_fitLen (hs : SL size need lifted licked morning tally kinds places lengths downs covers v n) (hw : WF v n B) {x : Nat} (hx : x < 2 ^ 31) : fX4_fitLengthSets size lengths (nI x) = some (nI (ctP (lsP v n x) (2 ^ n)), leP (lsP v n x) (2 ^ n), nI (alP (lsP v n x) 4294967295 (2 ^ n)), nI (anP (lsP v n x) (2 ^ n))) := by
  have h6 := pow6 hw.2.1
  have h := c_fitLen_L hs hw (M := 2 ^ n) h6 (Nat.two_pow_pos n) hx (2 ^ n) 0 FU (by omega) (Nat.lt_of_le_of_lt h6 (by decide))
  have h : fX4_fitLengthSets_L17 size lengths (nI x) (nI (2 ^ n - 1)) FU 0 (-9) (nI 4294967295) 0 0 = _ := h
  unfold fX4_fitLengthSets fX1_clear
  rw [bd4_s, c_allPeels hs hw, bd1_s, n_m1, h, bd4_s]
theorem m_sets_L (ha : AR now v) (hw : WF v n B) {x : Nat} (hx : x < 2 ^ 31) : ∀ (m k fuel : Nat), k + m = 2 ^ n → m < fuel → fX5_sets_L30 now (nI x) fuel (nI (ctP (lsP v n x) k)) (leP (lsP v n x) k) (nI k) = some (nI (ctP (lsP v n x) (2 ^ n)), leP (lsP v n x) (2 ^ n)) := by
  have hn6 := hw.2.1
  have h6 := pow6 hn6
  intro m
  induction m with
  | zero =>
    intro k fuel h1 h2
    obtain ⟨f, rfl⟩ : ∃ f, fuel = f + 1 := ⟨fuel - 1, by omega⟩
    have hk : k = 2 ^ n := by omega
    subst hk
    show fX5_sets_B30 _ _ _ _ _ _ = _
    unfold fX5_sets_B30
    rw [r35_1 ha, bd1_s, hw.1, sh1 (by omega), if_pos (nI_le (Nat.le_refl _) (by omega))]
  | succ m ih =>
    intro k fuel h1 h2
    obtain ⟨f, rfl⟩ : ∃ f, fuel = f + 1 := ⟨fuel - 1, by omega⟩
    have hl := lsN_lt hw k
    have hc := ctP_le (lsP v n x) k
    have hi := ih (k + 1) f (by omega) (by omega)
    show fX5_sets_B30 _ _ _ _ _ _ = _
    unfold fX5_sets_B30 fX5_sets_j63 fX5_sets_j67
    rw [r35_1 ha, bd1_s, hw.1, sh1 (by omega), if_neg (nI_ge (by omega) (by omega)), m_len ha hw (by omega), bd1_s]
    by_cases c : lsN v k n = x
    · have cP : lsP v n x k = true := decide_eq_true c
      rw [ctP_1 cP, leP_1 cP] at hi
      rw [if_pos (by rw [c]), nI_1, nI_1]
      by_cases c0 : ctP (lsP v n x) k = 0
      · rw [if_pos c0] at hi
        rw [if_pos (by rw [c0]; rfl)]
        exact hi
      · rw [if_neg c0] at hi
        rw [if_neg (fun z => c0 ((nI_eq0 (by omega)).mp z))]
        exact hi
    · have cP : ¬ lsP v n x k = true := fun z => c (of_decide_eq_true z)
      rw [ctP_0 cP, leP_0 cP] at hi
      rw [if_neg (nI_le4 hl hx c), nI_1]
      exact hi
theorem m_surely_L (ha : AR now v) (hw : WF v n B) {M x : Nat} (hM : M ≤ 64) (hM0 : 0 < M) (hx : x < 2 ^ 31) : ∀ (m k fuel : Nat), k + m = M → m < fuel → fX5_surely_L44 now (nI x) (nI (M - 1)) fuel (nI (alP (lsP v n x) (M - 1) k)) (nI (anP (lsP v n x) k)) (nI (ctP (lsP v n x) k)) (nI k) = some (nI (alP (lsP v n x) (M - 1) M), nI (anP (lsP v n x) M), nI (ctP (lsP v n x) M)) := by
  intro m
  induction m with
  | zero =>
    intro k fuel h1 h2
    obtain ⟨f, rfl⟩ : ∃ f, fuel = f + 1 := ⟨fuel - 1, by omega⟩
    have hk : k = M := by omega
    subst hk
    show fX5_surely_B44 _ _ _ _ _ _ _ _ = _
    unfold fX5_surely_B44
    rw [if_pos (nI_lt (by omega) (by omega))]
  | succ m ih =>
    intro k fuel h1 h2
    obtain ⟨f, rfl⟩ : ∃ f, fuel = f + 1 := ⟨fuel - 1, by omega⟩
    have hl := lsN_lt hw k
    have hi := ih (k + 1) f (by omega) (by omega)
    show fX5_surely_B44 _ _ _ _ _ _ _ _ = _
    unfold fX5_surely_B44 fX5_surely_j75
    rw [if_neg (nI_nlt (by omega) (by omega)), m_len ha hw (by omega), bd1_s]
    by_cases c : lsN v k n = x
    · have cP : lsP v n x k = true := decide_eq_true c
      rw [ctP_1 cP, alP_1 cP, anP_1 cP] at hi
      rw [if_pos (by rw [c]), n_and, n_or, nI_1, nI_1]
      exact hi
    · have cP : ¬ lsP v n x k = true := fun z => c (of_decide_eq_true z)
      rw [ctP_0 cP, alP_0 cP, anP_0 cP] at hi
      rw [if_neg (nI_le4 hl hx c), nI_1]
      exact hi
theorem in25 {x : Int32} (h : x < 0 ∨ nI 25 ≤ x) : fX5_in0 x 0 24 = some 0 ∧ (x < 0 ∨ ¬ x ≤ 24) := by
  refine ⟨(inK0 (k := 24) (by decide) h).2, ?_⟩
  rcases h with h | h
  · exact Or.inl h
  · exact Or.inr (i_gt (k := 24) (by decide) h)
theorem fl_sets (hs : SL size need lifted licked morning tally kinds places lengths downs covers v n) (hw : WF v n B) (ha : AR now v) (asked : Int32) (up lo : Int64) (c0 c1 c2 c3 x1 : Int32) : ∃ r a u l d0 d1 d2 d3, fX4_sets asked up lo size lengths c0 c1 c2 c3 x1 = some (r, a, u, l, d0, d1, d2, d3) ∧ fX5_sets asked up lo now x1 = some (r, a, u, l) := by
  have hn6 := hw.2.1
  rcases spl x1 (k := 25) (by decide) with ⟨x, hx, rfl⟩ | hx
  rotate_left
  · obtain ⟨z5, z4⟩ := in25 hx
    refine ⟨-1, asked, up, lo, c0, c1, c2, c3, ?_, by unfold fX5_sets; rw [z5, bd1_s, if_pos rfl]⟩
    unfold fX4_sets
    by_cases c : x1 < 0
    · rw [if_pos c]
    · rcases z4 with z4 | z4
      · exact absurd z4 c
      · rw [if_neg c, if_neg z4]
  have z5 : fX5_in0 (nI x) 0 24 = some 1 := (inK1 (k := 24) (by decide) (by omega)).2
  have q1 : ¬ nI x < 0 := nI_pos (by omega)
  have q2 : nI x ≤ 24 := nI_le (b := 24) (by omega) (by decide)
  by_cases n0 : n = 0
  · exact ⟨_, _, _, _, _, _, _, _, by unfold fX4_sets; rw [if_neg q1, if_pos q2, if_pos (c_any0 hs n0)], by unfold fX5_sets; rw [z5, bd1_s, if_neg one_ne, m_any0 ha hw n0, bd1_s, if_pos rfl]⟩
  have h6 := pow6 hn6
  have hc := ctP_le (lsP v n x) (2 ^ n)
  have e5 : fX5_sets_L30 now (nI x) FU 0 (-9) 0 = _ := m_sets_L ha hw (x := x) (by omega) (2 ^ n) 0 FU (by omega) (Nat.lt_of_le_of_lt h6 (by decide))
  exact ⟨_, _, _, _, _, _, _, _, by unfold fX4_sets fX4_tell; rw [if_neg q1, if_pos q2, if_neg (c_any1 hs hw n0), c_fitLen hs hw (by omega), bd4_s, tc_1 up lo (by omega), bd2_s, bd2_s], by unfold fX5_sets fX5_tells; rw [z5, bd1_s, if_neg one_ne, m_any1 ha hw n0, bd1_s, if_neg one_ne, e5, bd2_s, bd2_s]⟩
theorem fl_surely (hs : SL size need lifted licked morning tally kinds places lengths downs covers v n) (hw : WF v n B) (ha : AR now v) (fi asked : Int32) (c0 c1 c2 c3 : Int32) {F4 F5 : Nat → Int32} (hF : ∀ j, j < 6 → F4 j = F5 j) (x1 : Int32) : ∃ r f a d0 d1 d2 d3 F4' F5', fX4_surely fi asked size lengths c0 c1 c2 c3 F4 x1 = some (r, f, a, d0, d1, d2, d3, F4') ∧ fX5_surely fi asked now F5 x1 = some (r, f, a, F5') ∧ ∀ j, j < 6 → F4' j = F5' j := by
  have hn6 := hw.2.1
  rcases spl x1 (k := 25) (by decide) with ⟨x, hx, rfl⟩ | hx
  rotate_left
  · obtain ⟨z5, z4⟩ := in25 hx
    refine ⟨-1, fi, asked, c0, c1, c2, c3, F4, F5, ?_, by unfold fX5_surely; rw [z5, bd1_s, if_pos rfl], hF⟩
    unfold fX4_surely
    by_cases c : x1 < 0
    · rw [if_pos c]
    · rcases z4 with z4 | z4
      · exact absurd z4 c
      · rw [if_neg c, if_neg z4]
  have z5 : fX5_in0 (nI x) 0 24 = some 1 := (inK1 (k := 24) (by decide) (by omega)).2
  have q1 : ¬ nI x < 0 := nI_pos (by omega)
  have q2 : nI x ≤ 24 := nI_le (b := 24) (by omega) (by decide)
  by_cases n0 : n = 0
  · exact ⟨_, _, _, _, _, _, _, _, _, by unfold fX4_surely; rw [if_neg q1, if_pos q2, if_pos (c_any0 hs n0)], by unfold fX5_surely; rw [z5, bd1_s, if_neg one_ne, m_any0 ha hw n0, bd1_s, if_pos rfl], hF⟩
  have h6 := pow6 hn6
  have hp := Nat.two_pow_pos n
  have hc := ctP_le (lsP v n x) (2 ^ n)
  have e5 : fX5_surely_L44 now (nI x) (nI (2 ^ n - 1)) FU (nI (2 ^ n - 1)) 0 0 0 = _ := m_surely_L ha hw (M := 2 ^ n) (x := x) h6 hp (by omega) (2 ^ n) 0 FU (by omega) (Nat.lt_of_le_of_lt h6 (by decide))
  have ew : nI (2 ^ n) - 1 = nI (2 ^ n - 1) := nI_sub (b := 1) hp
  have hal := alP_eq (P := lsP v n x) (a := 4294967295) (b := 2 ^ n - 1) (k := 2 ^ n) (fun y hy _ => ⟨and_m1 (by omega), and_all hy⟩)
  by_cases c : ctP (lsP v n x) (2 ^ n) = 0
  · have c' : nI (ctP (lsP v n x) (2 ^ n)) = 0 := by rw [c]; rfl
    exact ⟨_, _, _, _, _, _, _, _, _, by unfold fX4_surely; rw [if_neg q1, if_pos q2, if_neg (c_any1 hs hw n0), c_fitLen hs hw (by omega), bd4_s, if_pos c', fd4_4, bd3_s], by unfold fX5_surely; rw [z5, bd1_s, if_neg one_ne, m_any1 ha hw n0, bd1_s, if_neg one_ne, r35_1 ha, bd1_s, hw.1, sh1 (by omega), ew, e5, bd3_s, if_pos c', fd5_4, bd3_s], upd_eq6 hF (by decide)⟩
  · have c' : ¬ nI (ctP (lsP v n x) (2 ^ n)) = 0 := fun z => c ((nI_eq0 (by omega)).mp z)
    have hal : alP (lsP v n x) 4294967295 (2 ^ n) = alP (lsP v n x) (2 ^ n - 1) (2 ^ n) := by
      rcases hal with ⟨z, -⟩ | ⟨-, z⟩
      · exact absurd z c
      · exact z
    exact ⟨_, _, _, _, _, _, _, _, _, by unfold fX4_surely; rw [if_neg q1, if_pos q2, if_neg (c_any1 hs hw n0), c_fitLen hs hw (by omega), bd4_s, if_neg c', c_allPeels hs hw, bd1_s, hal], by unfold fX5_surely fX5_tells; rw [z5, bd1_s, if_neg one_ne, m_any1 ha hw n0, bd1_s, if_neg one_ne, r35_1 ha, bd1_s, hw.1, sh1 (by omega), ew, e5, bd3_s, if_neg c', bd2_s], hF⟩
end
theorem step_sets : Step_sets Rel := by
  intro c d h x1
  obtain ⟨⟨a1, a2, a3, a4, a5⟩, hB, hC, n, V, q, k, hD⟩ := h
  obtain ⟨hw, hs, ha, hk, -⟩ := hD.get
  obtain ⟨r, a, u, l, d0, d1, d2, d3, e4, e5⟩ := fl_sets hs hw ha (ms_asked d) (ms_upper d) (ms_lower d) (cs_count c) (cs_least c) (cs_inAll c) (cs_inSome c) x1
  rw [← a2, ← a3, ← a4] at e4
  exact go2 (map_some e4) (map_some e5) rfl ⟨⟨a1, rfl, rfl, rfl, a5⟩, hB, hC, n, V, q, k, hD⟩
theorem step_surely : Step_surely Rel := by
  intro c d h x1
  obtain ⟨⟨a1, a2, a3, a4, a5⟩, hB, hC, n, V, q, k, hD⟩ := h
  obtain ⟨hw, hs, ha, hk, -⟩ := hD.get
  obtain ⟨r, f, a, d0, d1, d2, d3, F4, F5, e4, e5, hF⟩ := fl_surely hs hw ha (ms_finding d) (ms_asked d) (cs_count c) (cs_least c) (cs_inAll c) (cs_inSome c) a5 x1
  rw [← a1, ← a2] at e4
  exact go2 (map_some e4) (map_some e5) rfl ⟨⟨rfl, rfl, a3, a4, hF⟩, hB, hC, n, V, q, k, hD⟩
