/-! ===== pure: the class's slice over the same numbers ===== -/
/-- the lifted peels as a set -/
def lfN (v : Nat → Nat) (n : Nat) : Nat := sumN (fun i => lfV v i * 2 ^ i) n
/-- the class's slice holds the numbers v, of n peels -/
def SL (size need lifted licked morning tally : Int32) (kinds places lengths downs covers : Nat → Int32) (v : Nat → Nat) (n : Nat) : Prop :=
  size = nI n ∧ need = nI (v 0) ∧ lifted = nI (lfN v n) ∧ licked = nI (v 4) ∧ morning = nI (v 2) ∧ tally = nI (v 3) ∧ ∀ i, i < n → kinds i = nI (kdV v i) ∧ places i = nI (isV v i) ∧ lengths i = nI (lnV v i) ∧ downs i = nI (dnV v i) ∧ covers i = nI (cvV v i)
theorem lfN_lt {v : Nat → Nat} : ∀ {n : Nat}, (∀ i, i < n → lfV v i < 2) → lfN v n < 2 ^ n
  | 0, _ => Nat.zero_lt_one
  | n + 1, h => by
    have h1 := lfN_lt (v := v) (n := n) (fun i hi => h i (by omega))
    have h2 := h n (by omega)
    show lfN v n + lfV v n * 2 ^ n < 2 ^ (n + 1)
    rw [Nat.pow_succ]
    rcases (show lfV v n = 0 ∨ lfV v n = 1 by omega) with e | e
    · rw [e]; omega
    · rw [e]; omega
theorem lfN_bit {v : Nat → Nat} : ∀ {n : Nat}, (∀ i, i < n → lfV v i < 2) → ∀ i, i < n → lfN v n / 2 ^ i % 2 = lfV v i
  | 0, _, i, hi => absurd hi (Nat.not_lt_zero i)
  | n + 1, h, i, hi => by
    have hn := h n (by omega)
    have hlt := lfN_lt (v := v) (n := n) (fun i hi => h i (by omega))
    show (lfN v n + lfV v n * 2 ^ n) / 2 ^ i % 2 = _
    by_cases e : i = n
    · subst e
      rw [Nat.add_mul_div_right _ _ (Nat.two_pow_pos i), Nat.div_eq_of_lt hlt, Nat.zero_add]
      omega
    · have ih := lfN_bit (v := v) (n := n) (fun i hi => h i (by omega)) i (by omega)
      obtain ⟨q, hq⟩ : ∃ q, n = i + 1 + q := ⟨n - i - 1, by omega⟩
      have : lfV v n * 2 ^ n = 2 ^ i * (2 * (lfV v n * 2 ^ q)) := by
        rw [hq, Nat.pow_add, Nat.pow_succ]
        simp only [Nat.mul_assoc, Nat.mul_comm, Nat.mul_left_comm]
      rw [this, Nat.add_mul_div_left _ _ (Nat.two_pow_pos i), Nat.add_mul_mod_self_left]
      exact ih
theorem c_has {n i : Nat} (hn : n ≤ 6) (hi : i < n) : fX3_has (nI n) (nI i) = some 1 := by
  unfold fX3_has
  have c3 : ¬ (6 : Int32) ≤ nI i := nI_ge (a := i) (b := 6) (by omega) (by decide)
  rw [if_neg (nI_pos (by omega)), if_neg (nI_ge hi (by omega)), if_neg c3]
theorem c_hasN {n : Nat} {x : Int32} (h : x < 0 ∨ nI n ≤ x) : fX3_has (nI n) x = some 0 := by
  unfold fX3_has
  rcases h with h | h
  · rw [if_pos h]
  · split
    · rfl
    · first | rfl | rw [if_pos h]
theorem a6 {f : Nat → Int32} {i : Nat} (hi : i < 6) : ald 6 f (nI i) = some (f i) := ald_nI hi (by decide)
theorem t6 {f : Nat → Int32} {i : Nat} {x : Int32} (hi : i < 6) : ast 6 f (nI i) x = some (upd f i x) := ast_nI hi (by decide)
theorem bd1_one {γ : Type} {a : Int32} {k : Int32 → Option γ} {o : Option Int32} (h : o = some a) : bd1 o k = k a := by rw [h, bd1_s]
theorem one_ne : ¬ (1 : Int32) = 0 := by decide
section
variable {size need lifted licked morning tally : Int32} {kinds places lengths downs covers : Nat → Int32} {v : Nat → Nat} {n B : Nat}
theorem c_isLifted (hw : WF v n B) {i : Nat} (hi : i < n) : fX3_isLifted (nI (lfN v n)) (nI i) = some (nI (lfV v i)) := by
  have h8 := hw.2.2.2.2.2.2.2
  have hn6 := hw.2.1
  have hlt := lfN_lt (v := v) (n := n) (fun i hi => (h8 i hi).2.2.2.2)
  have h64 : 2 ^ n ≤ 2 ^ 6 := Nat.pow_le_pow_right (by decide) hn6
  have hl := (h8 i hi).2.2.2.2
  unfold fX3_isLifted
  rw [n_bit (by omega) (by omega), lfN_bit (fun i hi => (h8 i hi).2.2.2.2) i hi]
  rcases (show lfV v i = 0 ∨ lfV v i = 1 by omega) with e | e
  · rw [e, if_neg (by decide)]; rfl
  · rw [e, if_pos (by decide)]; rfl
/-- covers of all but two, by number; a number that is none leaves nobody out -/
def butN (v : Nat → Nat) (a b : Int32) (k : Nat) : Nat := orN (fun i => if nI i = a ∨ nI i = b ∨ lfV v i = 1 then 0 else cvV v i) k
theorem c_butL (hs : SL size need lifted licked morning tally kinds places lengths downs covers v n) (hw : WF v n B) (a b : Int32) : ∀ (m k fuel : Nat), k + m = n → m < fuel → fX3_coverOfAllBut_L5 size lifted covers a b fuel (nI (butN v a b k)) (nI k) = some (nI (butN v a b n)) := by
  obtain ⟨rfl, -, rfl, -, -, -, hp⟩ := hs
  have hn6 := hw.2.1
  intro m
  induction m with
  | zero =>
    intro k fuel h1 h2
    obtain ⟨f, rfl⟩ : ∃ f, fuel = f + 1 := ⟨fuel - 1, by omega⟩
    have hk : k = n := by omega
    subst hk
    show fX3_coverOfAllBut_B5 _ _ _ _ _ _ _ _ = _
    unfold fX3_coverOfAllBut_B5
    rw [if_pos (nI_le (Nat.le_refl k) (by omega))]
  | succ m ih =>
    intro k fuel h1 h2
    obtain ⟨f, rfl⟩ : ∃ f, fuel = f + 1 := ⟨fuel - 1, by omega⟩
    have hk : k < n := by omega
    have hlf := (hw.2.2.2.2.2.2.2 k hk).2.2.2.2
    show fX3_coverOfAllBut_B5 _ _ _ _ _ _ _ _ = _
    unfold fX3_coverOfAllBut_B5 fX3_coverOfAllBut_j52
    have c6 : ¬ (6 : Int32) ≤ nI k := nI_ge (a := k) (b := 6) (by omega) (by decide)
    have hr : ∀ z, z = (if nI k = a ∨ nI k = b ∨ lfV v k = 1 then 0 else cvV v k) → fX3_coverOfAllBut_L5 (nI n) (nI (lfN v n)) covers a b f (nI (butN v a b k ||| z)) (nI k + 1) = some (nI (butN v a b n)) := by
      intro z hz
      rw [nI_1]
      have := ih (k + 1) f (by omega) (by omega)
      rw [show butN v a b (k + 1) = butN v a b k ||| z by rw [hz]; rfl] at this
      exact this
    have hr0 : (nI k = a ∨ nI k = b ∨ lfV v k = 1) → fX3_coverOfAllBut_L5 (nI n) (nI (lfN v n)) covers a b f (nI (butN v a b k)) (nI k + 1) = some (nI (butN v a b n)) := by
      intro hc
      have := hr 0 (by rw [if_pos hc])
      rw [Nat.or_zero] at this
      exact this
    rw [if_neg (nI_ge hk (by omega)), if_neg c6]
    by_cases ca : nI k = a
    · rw [if_pos ca]; exact hr0 (Or.inl ca)
    rw [if_neg ca]
    by_cases cb : nI k = b
    · rw [if_pos cb]; exact hr0 (Or.inr (Or.inl cb))
    rw [if_neg cb, c_isLifted hw hk, bd1_s]
    by_cases cl : lfV v k = 0
    · rw [if_pos (by rw [cl]; rfl), a6 (by omega), bd1_s, (hp k hk).2.2.2.2, n_or]
      exact hr (cvV v k) (by rw [if_neg]; intro q; rcases q with q | q | q; exact ca q; exact cb q; omega)
    · rw [if_neg (fun q => cl ((nI_eq0 (by omega)).mp q))]
      exact hr0 (Or.inr (Or.inr (by omega)))
theorem c_but (hs : SL size need lifted licked morning tally kinds places lengths downs covers v n) (hw : WF v n B) (a b : Int32) : fX3_coverOfAllBut size lifted covers a b = some (nI (butN v a b n)) := by
  unfold fX3_coverOfAllBut
  have h : fX3_coverOfAllBut_L5 size lifted covers a b FU 0 0 = _ := c_butL hs hw a b n 0 FU (by omega) (Nat.lt_of_le_of_lt hw.2.1 (by decide))
  rw [h, bd1_s]
theorem nI_ne9 {k : Nat} (h : k < 6) : ¬ nI k = (-9) := by
  have : ∀ k, k < 6 → ¬ nI k = (-9) := by decide
  exact this k h
theorem butN_no (v : Nat → Nat) {k : Nat} (hk : k ≤ 6) : butN v (-9) (-9) k = coV v 0 k := by
  refine orN_cong (fun j hj => ?_)
  have h9 := nI_ne9 (k := j) (by omega)
  simp only [h9, false_or, Nat.zero_div, Nat.zero_mod, Nat.zero_ne_one, or_false]
theorem c_coveredNow (hs : SL size need lifted licked morning tally kinds places lengths downs covers v n) (hw : WF v n B) : fX3_coveredNow size lifted licked covers = some (nI (cdV v 0)) := by
  unfold fX3_coveredNow
  rw [c_but hs hw, bd1_s, butN_no v hw.2.1, hs.2.2.2.1, n_m1, n_xor, n_and]
  unfold cdV
  rw [hw.1]
theorem c_linesBy_L {q x : Nat} (hn : 0 < n) (hn6 : n ≤ 6) (hq : q ≤ 4) (hx : x < 65536) : ∀ (m k fuel : Nat), k + m = 8 → m < fuel → fX3_linesBy_L4 (nI n) (nI q) (nI x) fuel (nI (orN (fun l => if pcN (x &&& lineN l) < q then 0 else 2 ^ l) k)) (nI k) = some (nI (lnsN q x)) := by
  intro m
  induction m with
  | zero =>
    intro k fuel h1 h2
    obtain ⟨f, rfl⟩ : ∃ f, fuel = f + 1 := ⟨fuel - 1, by omega⟩
    have hk : k = 8 := by omega
    subst hk
    show fX3_linesBy_B4 _ _ _ _ _ _ = _
    unfold fX3_linesBy_B4
    exact if_pos (nI_le (Nat.le_refl 8) (by decide))
  | succ m ih =>
    intro k fuel h1 h2
    obtain ⟨f, rfl⟩ : ∃ f, fuel = f + 1 := ⟨fuel - 1, by omega⟩
    show fX3_linesBy_B4 _ _ _ _ _ _ = _
    unfold fX3_linesBy_B4 fX3_linesBy_j40
    have c1 : ¬ (8 : Int32) ≤ nI k := nI_ge (a := k) (b := 8) (by omega) (by decide)
    have hpc := pcN_le (x &&& lineN k)
    have e0 : ald 8 lineP (nI k) = some (nI (lineN k)) := by rw [ald_nI (by omega) (by decide), (lineN_all k (by omega)).2.1]
    have e1 : bitc (nI (x &&& lineN k)) = nI (pcN (x &&& lineN k)) := bitc_n (and_lt hx)
    have hr : ∀ z, z = (if pcN (x &&& lineN k) < q then 0 else 2 ^ k) → fX3_linesBy_L4 (nI n) (nI q) (nI x) f (nI (orN (fun l => if pcN (x &&& lineN l) < q then 0 else 2 ^ l) k ||| z)) (nI k + 1) = some (nI (lnsN q x)) := by
      intro z hz
      rw [nI_1]
      have := ih (k + 1) f (by omega) (by omega)
      rw [show orN (fun l => if pcN (x &&& lineN l) < q then 0 else 2 ^ l) (k + 1) = orN (fun l => if pcN (x &&& lineN l) < q then 0 else 2 ^ l) k ||| z by rw [hz]; rfl] at this
      exact this
    rw [if_neg c1, if_neg (nI_nle hn (by omega)), e0, bd1_s, n_and, e1]
    by_cases c : pcN (x &&& lineN k) < q
    · rw [if_pos (nI_lt c (by omega))]
      have := hr 0 (by rw [if_pos c])
      rw [Nat.or_zero] at this
      exact this
    · rw [if_neg (nI_nlt (by omega) (by omega))]
      have e2 : (1 : Int32) <<< (nI k &&& 31) = nI (2 ^ k) := by
        have := n_shl (a := 1) (k := k) (by omega) (by have := pow_lt k (by omega); omega)
        rw [Nat.one_mul] at this
        exact this
      rw [e2, n_or]
      exact hr (2 ^ k) (by rw [if_neg c])
theorem c_linesBy {q x : Nat} (hn : 0 < n) (hn6 : n ≤ 6) (hq : q ≤ 4) (hx : x < 65536) : fX3_linesBy (nI n) (nI q) (nI x) = some (nI (lnsN q x)) := by
  unfold fX3_linesBy
  have h : fX3_linesBy_L4 (nI n) (nI q) (nI x) FU 0 0 = _ := c_linesBy_L hn hn6 hq hx 8 0 FU rfl (by decide)
  rw [h, bd1_s]
theorem c_linesNow (hs : SL size need lifted licked morning tally kinds places lengths downs covers v n) (hw : WF v n B) (hn : 0 < n) : fX3_linesNow size need lifted licked covers = some (nI (liV v)) := by
  unfold fX3_linesNow
  rw [c_but hs hw, bd1_s, butN_no v hw.2.1, hs.2.2.2.1, n_m1, n_xor, n_and]
  have hc : coV v 0 n &&& (v 4 ^^^ 4294967295) = cdV v 0 := by unfold cdV; rw [hw.1]
  rw [hc, hs.1, hs.2.1, c_linesBy hn hw.2.1 hw.2.2.2.2.2.1 (cdV_lt hw 0), bd1_s]
  rfl
end
