/-! ===== pure: best ===== -/
theorem orN_up {f g : Nat → Nat} {i : Nat} : ∀ {n : Nat}, i < n → (∀ j, j < n → j ≠ i → f j = g j) → g i = 0 → orN f n = orN g n ||| f i
  | 0, h, _, _ => absurd h (Nat.not_lt_zero i)
  | n + 1, h, e, h0 => by
    rw [orN, orN]
    by_cases hi : i = n
    · subst hi
      rw [orN_cong (f := f) (g := g) (n := i) (fun j hj => e j (by omega) (by omega)), h0, Nat.or_zero]
    · rw [orN_up (f := f) (g := g) (i := i) (n := n) (by omega) (fun j hj => e j (by omega)) h0, e n (by omega) (by omega), Nat.or_assoc, Nat.or_comm (f i), ← Nat.or_assoc]
theorem nI_ii {i j : Nat} (hi : i < 6) (hj : j < 6) : nI j = nI i ↔ j = i := nI_eq (by omega) (by omega)
theorem butN_lt {v : Nat → Nat} {n B : Nat} (hw : WF v n B) (a b : Int32) : butN v a b n < 65536 := by
  refine orN_lt (k := 16) (fun j hj => ?_)
  show (if _ then 0 else cvV v j) < _
  split
  · decide
  · exact cvV_lt hw hj
/-- a peel set down at another place -/
theorem bst_v {v : Nat → Nat} {n B : Nat} (hw : WF v n B) {i p : Nat} (hi : i < n) (_hp : p < 16) : liV (upN (upN v (6 + 5 * i) p) (9 + 5 * i) 0) = lnsN (v 0) ((butN v (nI i) (nI i) n ||| covN (kdV v i) p (lnV v i) (dnV v i)) &&& (v 4 ^^^ 4294967295)) := by
  have hn6 := hw.2.1
  have e0 : ∀ x, x < 5 → upN (upN v (6 + 5 * i) p) (9 + 5 * i) 0 x = v x := fun x hx => by rw [upN_n _ _ (by omega), upN_n _ _ (by omega)]
  have ek : ∀ j, kdV (upN (upN v (6 + 5 * i) p) (9 + 5 * i) 0) j = kdV v j := fun j => by unfold kdV; rw [upN_n _ _ (by omega), upN_n _ _ (by omega)]
  have el : ∀ j, lnV (upN (upN v (6 + 5 * i) p) (9 + 5 * i) 0) j = lnV v j := fun j => by unfold lnV; rw [upN_n _ _ (by omega), upN_n _ _ (by omega)]
  have ed : ∀ j, dnV (upN (upN v (6 + 5 * i) p) (9 + 5 * i) 0) j = dnV v j := fun j => by unfold dnV; rw [upN_n _ _ (by omega), upN_n _ _ (by omega)]
  have ei : ∀ j, isV (upN (upN v (6 + 5 * i) p) (9 + 5 * i) 0) j = if j = i then p else isV v j := fun j => by
    unfold isV
    rw [upN_n _ _ (by omega)]
    by_cases e : j = i
    · subst e; rw [upN_s, if_pos rfl]
    · rw [upN_n _ _ (by omega), if_neg e]
  have ef : ∀ j, lfV (upN (upN v (6 + 5 * i) p) (9 + 5 * i) 0) j = if j = i then 0 else lfV v j := fun j => by
    unfold lfV
    by_cases e : j = i
    · subst e; rw [upN_s, if_pos rfl]
    · rw [upN_n _ _ (by omega), upN_n _ _ (by omega), if_neg e]
  have hco : coV (upN (upN v (6 + 5 * i) p) (9 + 5 * i) 0) 0 n = butN v (nI i) (nI i) n ||| covN (kdV v i) p (lnV v i) (dnV v i) := by
    unfold coV butN
    rw [orN_up (i := i) (g := fun j => if nI j = nI i ∨ nI j = nI i ∨ lfV v j = 1 then 0 else cvV v j) hi]
    · congr 1
      simp only [cvV, ek, el, ed, ei, ef, if_true, Nat.zero_div, Nat.zero_mod, Nat.zero_ne_one, or_self, if_false]
    · intro j hj hne
      have hji : ¬ nI j = nI i := fun z => hne ((nI_ii (by omega) (by omega)).mp z)
      simp only [cvV, ek, el, ed, ei, ef, if_neg hne, hji, false_or, Nat.zero_div, Nat.zero_mod, Nat.zero_ne_one, or_false]
    · simp
  unfold liV cdV
  rw [e0 0 (by decide), e0 1 (by decide), e0 4 (by decide), hw.1, hco]
theorem bst_WF {v : Nat → Nat} {n B : Nat} (hw : WF v n B) {i p : Nat} (hi : i < n) (hp : p < 16) : WF (upN (upN v (6 + 5 * i) p) (9 + 5 * i) 0) n B :=
  (upP_WF hw hi hp).upP (o := 4) (a := 0) hi (by decide) ⟨fun z => absurd z (by decide), fun z => absurd z (by decide), fun z => absurd z (by decide), fun z => absurd z (by decide), fun _ => by decide⟩
section
variable {size need lifted licked morning tally : Int32} {kinds places lengths downs covers now : Nat → Int32} {v : Nat → Nat} {n B : Nat}
theorem best_L (hs : SL size need lifted licked morning tally kinds places lengths downs covers v n) (hw : WF v n B) (ha : AR now v) {i : Nat} (hi : i < n) : ∀ (m p fuel : Nat) (x3 x4 : Int32) (t : Nat → Int32), p + m = 16 → m < fuel → ∃ r a t', fX4_best_L31 size need licked kinds lengths downs (nI i) (nI (butN v (nI i) (nI i) n)) fuel x3 x4 (nI p) = some (r, a) ∧ fX5_best_L17 now (nI i) fuel t x3 x4 (nI p) = some (t', r, a) := by
  have hn6 := hw.2.1
  intro m
  induction m with
  | zero =>
    intro p fuel x3 x4 t h1 h2
    obtain ⟨f, rfl⟩ : ∃ f, fuel = f + 1 := ⟨fuel - 1, by omega⟩
    have hp : p = 16 := by omega
    subst hp
    refine ⟨x3, x4, t, ?_, ?_⟩
    · show fX4_best_B31 _ _ _ _ _ _ _ _ _ _ _ _ = _
      unfold fX4_best_B31
      rw [if_pos (by decide)]
    · show fX5_best_B17 _ _ _ _ _ _ _ = _
      unfold fX5_best_B17
      rw [if_pos (by decide)]
  | succ m ih =>
    intro p fuel x3 x4 t h1 h2
    obtain ⟨f, rfl⟩ : ∃ f, fuel = f + 1 := ⟨fuel - 1, by omega⟩
    obtain ⟨b0, b1, b2, b3, b4⟩ := hw.2.2.2.2.2.2.2 i hi
    have hp : p < 16 := by omega
    have c16 : ¬ (16 : Int32) ≤ nI p := nI_ge (a := p) (b := 16) (by omega) (by decide)
    have hcv := (cov_ok b0 hp b2 b3).2.2
    have hor : butN v (nI i) (nI i) n ||| covN (kdV v i) p (lnV v i) (dnV v i) < 65536 := Nat.or_lt_two_pow (n := 16) (butN_lt hw _ _) hcv
    have hx : (butN v (nI i) (nI i) n ||| covN (kdV v i) p (lnV v i) (dnV v i)) &&& (v 4 ^^^ 4294967295) < 65536 := and_lt hor
    have hlb : fX3_linesBy size need ((nI (butN v (nI i) (nI i) n) ||| nI (covN (kdV v i) p (lnV v i) (dnV v i))) &&& (licked ^^^ (-1))) = some (nI (liV (upN (upN v (6 + 5 * i) p) (9 + 5 * i) 0))) := by
      rw [hs.1, hs.2.1, hs.2.2.2.1, n_m1, n_or, n_xor, n_and, c_linesBy (by omega) hn6 hw.2.2.2.2.2.1 hx, bst_v hw hi hp]
    obtain ⟨t1, e1, ha1⟩ := m_tried ha t
    have ha2 := (ha1.up (6 + 5 * i) p).up (9 + 5 * i) 0
    have hli := m_linesIn ha2 (bst_WF hw hi hp)
    have hlt : liV (upN (upN v (6 + 5 * i) p) (9 + 5 * i) 0) < 256 := liV_lt _
    have u4 : ∀ a b, fX4_best_L31 size need licked kinds lengths downs (nI i) (nI (butN v (nI i) (nI i) n)) (f + 1) a b (nI p) = fX4_best_B31 size need licked kinds lengths downs (nI i) (nI (butN v (nI i) (nI i) n)) (fX4_best_L31 size need licked kinds lengths downs (nI i) (nI (butN v (nI i) (nI i) n)) f) a b (nI p) := fun _ _ => rfl
    have u5 : ∀ t a b, fX5_best_L17 now (nI i) (f + 1) t a b (nI p) = fX5_best_B17 now (nI i) (fX5_best_L17 now (nI i) f) t a b (nI p) := fun _ _ _ => rfl
    rw [u4, u5]
    unfold fX4_best_B31 fX5_best_B17 fX4_best_j98 fX5_best_j90 fX5_best_j103
    rw [if_neg c16, if_neg c16, c_downOf hs hw hi, bd1_s, c_coverAt hs hw hi hp b3, bd1_s, hlb, bd1_s, e1, bd1_s, ix1, s35 (by omega), bd1_s, ix4, s35 (by omega), bd1_s]
    have hli : fX5_linesIn 35 (upd (upd t1 (6 + 5 * i) (nI p)) (9 + 5 * i) 0) = _ := hli
    rw [hli, bd1_s, ones_n (by omega), bd1_s, bitc_n (by omega), nI_1]
    by_cases c : nI (pcN (liV (upN (upN v (6 + 5 * i) p) (9 + 5 * i) 0))) ≤ x4
    · rw [if_pos c, if_pos c, if_pos c]
      exact ih (p + 1) f x3 x4 _ (by omega) (by omega)
    · rw [if_neg c, if_neg c, if_neg c]
      exact ih (p + 1) f (nI p) _ _ (by omega) (by omega)
theorem fl_best (hs : SL size need lifted licked morning tally kinds places lengths downs covers v n) (hw : WF v n B) (ha : AR now v) (asked : Int32) (tried : Nat → Int32) (x1 : Int32) : ∃ r a t, fX4_best asked size need lifted licked kinds lengths downs covers x1 = some (r, a) ∧ fX5_best asked now tried x1 = some (r, a, t) := by
  have hn6 := hw.2.1
  rcases spl x1 (k := n) (by omega) with ⟨i, hi, rfl⟩ | hx
  rotate_left
  · exact ⟨_, _, _, by unfold fX4_best; rw [c_has0 hs hx, bd1_s, if_pos rfl], by unfold fX5_best; rw [m_isPeel0 ha hw hx, bd1_s, if_pos rfl]⟩
  obtain ⟨r, a, t, e4, e5⟩ := best_L hs hw ha hi 16 0 FU 0 (-1) tried (by omega) (by decide)
  have e4 : fX4_best_L31 size need licked kinds lengths downs (nI i) (nI (butN v (nI i) (nI i) n)) FU 0 (-1) 0 = _ := e4
  have e5 : fX5_best_L17 now (nI i) FU tried 0 (-1) 0 = _ := e5
  exact ⟨r, a, t, by unfold fX4_best; rw [c_has1 hs hw hi, bd1_s, if_neg one_ne, c_but hs hw, bd1_s, e4, bd2_s], by unfold fX5_best fX5_tells; rw [m_isPeel1 ha hw hi, bd1_s, if_neg one_ne, e5, bd3_s, bd2_s]⟩
end
theorem step_best : Step_best Rel := by
  intro c d h x1
  obtain ⟨⟨a1, a2, a3, a4, a5⟩, hB, hC, n, V, q, k, hD⟩ := h
  obtain ⟨hw, hs, ha, hk, -⟩ := hD.get
  obtain ⟨r, a, t, e4, e5⟩ := fl_best hs hw ha (ms_asked d) (ms_tried d) x1
  rw [← a2] at e4
  exact go2 (map_some e4) (map_some e5) rfl ⟨⟨a1, rfl, a3, a4, a5⟩, hB, hC, n, V, q, k, hD⟩
