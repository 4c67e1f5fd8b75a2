/-! ===== pure: a deed is done, on both sides ===== -/
theorem m_copies_L {n0 n1 a b n : Nat} {a0 r0 : Nat → Int32} (h0 : n0 < 2 ^ 31) (h1 : n1 < 2 ^ 31) (ha : a + n ≤ n0) (hb : b + n ≤ n1) : ∀ (m k fuel : Nat) (r : Nat → Int32), (∀ y, r y = if b ≤ y ∧ y < b + k then a0 (a + (y - b)) else r0 y) → k + m = n → m < fuel → ∃ r', fX5_copies_L3 n0 n1 a0 (nI a) (nI b) (nI n) fuel r (nI k) = some r' ∧ ∀ y, r' y = if b ≤ y ∧ y < b + n then a0 (a + (y - b)) else r0 y := by
  intro m
  induction m with
  | zero =>
    intro k fuel r hs e1 e2
    obtain ⟨f, rfl⟩ : ∃ f, fuel = f + 1 := ⟨fuel - 1, by omega⟩
    have hk : k = n := by omega
    subst hk
    refine ⟨r, ?_, hs⟩
    show fX5_copies_B3 _ _ _ _ _ _ _ _ _ = _
    unfold fX5_copies_B3
    rw [if_pos (nI_le (Nat.le_refl k) (by omega))]
  | succ m ih =>
    intro k fuel r hs e1 e2
    obtain ⟨f, rfl⟩ : ∃ f, fuel = f + 1 := ⟨fuel - 1, by omega⟩
    obtain ⟨r', e, hr'⟩ := ih (k + 1) f (upd r (b + k) (a0 (a + k))) (fun y => by
      by_cases ey : y = b + k
      · subst ey
        rw [upd_s, if_pos (by omega)]
        congr 1
        omega
      · rw [upd_n _ _ ey, hs y]
        by_cases c : b ≤ y ∧ y < b + k
        · rw [if_pos c, if_pos (by omega)]
        · rw [if_neg c, if_neg (by omega)]) (by omega) (by omega)
    refine ⟨r', ?_, hr'⟩
    show fX5_copies_B3 _ _ _ _ _ _ _ _ _ = _
    unfold fX5_copies_B3
    rw [if_neg (nI_ge (by omega) (by omega)), nI_add, nI_add, ald_nI (by omega) h0, bd1_s, ast_nI (by omega) h1, bd1_s, nI_1]
    exact e
theorem m_copies {n0 n1 a b n : Nat} (a0 r0 : Nat → Int32) (h0 : n0 < 2 ^ 31) (h1 : n1 < 2 ^ 31) (ha : a + n ≤ n0) (hb : b + n ≤ n1) (hn : n < 10000) : ∃ r', fX5_copies n0 n1 a0 r0 (nI a) (nI b) (nI n) = some r' ∧ ∀ y, r' y = if b ≤ y ∧ y < b + n then a0 (a + (y - b)) else r0 y := by
  obtain ⟨r', e, hr'⟩ := m_copies_L (a0 := a0) (r0 := r0) h0 h1 ha hb n 0 FU r0 (fun y => by rw [if_neg (by omega)]) (by omega) (Nat.lt_trans hn (by decide))
  have e : fX5_copies_L3 n0 n1 a0 (nI a) (nI b) (nI n) FU r0 0 = some r' := e
  refine ⟨r', ?_, hr'⟩
  unfold fX5_copies
  rw [e, bd1_s]
/-- the reference notes where it stands -/
theorem m_notes {now past : Nat → Int32} {k : Nat} (hk : k < 40) : ∃ past', fX5_notes (nI k) now past = some (nI (k + 1), past') ∧ ∀ y, past' y = if 35 * k ≤ y ∧ y < 35 * k + 35 then now (y - 35 * k) else past y := by
  obtain ⟨p', e, hp⟩ := m_copies (n0 := 35) (n1 := 1400) (a := 0) (b := 35 * k) (n := 35) now past (by decide) (by decide) (by omega) (by omega) (by decide)
  have e1 : (35 : Int32) * nI k = nI (35 * k) := nI_mul 35 k
  have e : fX5_copies 35 1400 now past 0 (nI (35 * k)) 35 = some p' := e
  refine ⟨p', ?_, fun y => by rw [hp y]; simp⟩
  unfold fX5_notes
  rw [e1, e, bd1_s, nI_1]
section
variable {size need lifted licked morning tally : Int32} {kinds places lengths downs covers : Nat → Int32} {v : Nat → Nat} {n B : Nat}
theorem s_append {N m w : Nat} {items sizes : Nat → Int32} (hm : m < 2 ^ 31) (hN : N < 2 ^ 31) (hw : w * m ≤ N) (hw2 : w < 2 ^ 31) {r k : Nat} {x : Int32} (hr : r < m) (hk : k < w) (h : sizes r = nI k) : fX2_append N m (nI w) items sizes (nI r) x = some (upd items (w * r + k) x, upd sizes r (nI (k + 1))) := by
  have hlt : w * r + k < N := by
    have : w * r + w ≤ w * m := by rw [← Nat.mul_succ]; exact Nat.mul_le_mul_left w hr
    omega
  unfold fX2_append
  rw [s_sizeOf hm hr, bd1_s, h, if_neg (nI_pos (by omega)), if_neg (nI_ge hk hw2), nI_1, ast_nI hr hm, bd1_s, nI_mul, nI_add, Nat.mul_comm r w, ast_nI hlt hN, bd1_s]
theorem c_act (hs : SL size need lifted licked morning tally kinds places lengths downs covers v n) (hw : WF v n B) (hB : B < 2 ^ 20) {what i place k : Nat} (hwh : what ≤ 4) (hi : i < n) (hp : place < 16) {dit dsz : Nat → Int32} (hk : k < 40) (hd : dsz 3 = nI k) :
    ∃ lf lk mo ta pl dn cv, fX4_act dit dsz size need lifted licked morning tally kinds places lengths downs covers (nI what) (nI i) (nI place) = some (upd dit (120 + k) (nI ((what * 6 + i) * 16 + place)), upd dsz 3 (nI (k + 1)), lf, lk, mo, ta, pl, dn, cv) ∧ SL size need lf lk mo ta kinds pl lengths dn cv (spV what i place v) n := by
  obtain ⟨lf, lk, mo, ta, pl, dn, cv, e, hS⟩ := c_perform hs hw hB hwh hi hp
  refine ⟨lf, lk, mo, ta, pl, dn, cv, ?_, hS⟩
  unfold fX4_act
  have e1 : (nI what * 6 + nI i) * 16 + nI place = nI ((what * 6 + i) * 16 + place) := by
    show (nI what * nI 6 + nI i) * nI 16 + nI place = _
    rw [nI_mul, nI_add, nI_mul, nI_add]
  have e2 : fX2_append 160 4 40 dit dsz 3 (nI ((what * 6 + i) * 16 + place)) = some (upd dit (40 * 3 + k) (nI ((what * 6 + i) * 16 + place)), upd dsz 3 (nI (k + 1))) := s_append (m := 4) (N := 160) (w := 40) (r := 3) (by decide) (by decide) (by decide) (by decide) (by decide) hk hd
  rw [e1, e2, bd2_s, e, bd7_s]
end
/-- RelD by its pieces -/
def RD (Sst : Prop) (Ssl : (Nat → Nat) → Prop) (dsz dit : Nat → Int32) (deeds : Int32) (now past kd ke kp : Nat → Int32) (n : Nat) (V q : Nat → Nat) (k : Nat) : Prop :=
  WF V n 0 ∧ Sst ∧ k ≤ 40 ∧ dsz 3 = nI k ∧ deeds = nI k ∧ (∀ j, j < k → dit (120 + j) = nI (q j) ∧ okD n (q j)) ∧ Ssl (rpV q V k) ∧ AR now (rpV q V k) ∧ (∀ j, j < k → AR (fun x => past (35 * j + x)) (rpV q V j)) ∧
  ∀ t, t < 3 → (dsz t = -1 ∧ kd t = -9) ∨ ∃ q' k', 0 < n ∧ k' ≤ 40 ∧ dsz t = nI k' ∧ kd t = nI k' ∧ (∀ j, j < k' → dit (40 * t + j) = nI (q' j) ∧ okD n (q' j)) ∧ AR (fun x => ke (35 * t + x)) (rpV q' V k') ∧ ∀ j, j < k' → AR (fun x => kp (1400 * t + 35 * j + x)) (rpV q' V j)
theorem rpV_cong {p q V : Nat → Nat} : ∀ {k : Nat}, (∀ j, j < k → p j = q j) → rpV p V k = rpV q V k
  | 0, _ => rfl
  | k + 1, h => by rw [rpV, rpV, rpV_cong (fun j hj => h j (by omega)), h k (by omega)]
theorem code_ok {what i place n : Nat} (hwh : what ≤ 4) (hi : i < n) (hn : n ≤ 6) (hp : place < 16) : okD n ((what * 6 + i) * 16 + place) ∧ ∀ v, spC ((what * 6 + i) * 16 + place) v = spV what i place v := by
  have e1 : ((what * 6 + i) * 16 + place) / 96 = what := by omega
  have e2 : ((what * 6 + i) * 16 + place) / 16 % 6 = i := by omega
  have e3 : ((what * 6 + i) * 16 + place) % 16 = place := by omega
  refine ⟨⟨by omega, by omega⟩, fun v => ?_⟩
  unfold spC
  rw [e1, e2, e3]
theorem RD.act {Sst : Prop} {Ssl Ssl' : (Nat → Nat) → Prop} {dsz dit : Nat → Int32} {deeds : Int32} {now past kd ke kp now' past' : Nat → Int32} {n : Nat} {V q : Nat → Nat} {k : Nat} (h : RD Sst Ssl dsz dit deeds now past kd ke kp n V q k) (hk : k < 40) {what i place : Nat} (hwh : what ≤ 4) (hi : i < n) (hp : place < 16)
    (hS : Ssl' (spV what i place (rpV q V k))) (hN : AR now' (spV what i place (rpV q V k))) (hpast : ∀ y, past' y = if 35 * k ≤ y ∧ y < 35 * k + 35 then now (y - 35 * k) else past y) :
    RD Sst Ssl' (upd dsz 3 (nI (k + 1))) (upd dit (120 + k) (nI ((what * 6 + i) * 16 + place))) (nI (k + 1)) now' past' kd ke kp n V (upN q k ((what * 6 + i) * 16 + place)) (k + 1) := by
  obtain ⟨h1, h2, h3, h4, h5, h6, h7, h8, h9, h10⟩ := h
  obtain ⟨ok, hsp⟩ := code_ok hwh hi h1.2.1 hp
  have hq : ∀ j, j < k → upN q k ((what * 6 + i) * 16 + place) j = q j := fun j hj => upN_n _ _ (by omega)
  have hrp : ∀ j, j ≤ k → rpV (upN q k ((what * 6 + i) * 16 + place)) V j = rpV q V j := fun j hj => rpV_cong (fun y hy => hq y (by omega))
  have hlast : rpV (upN q k ((what * 6 + i) * 16 + place)) V (k + 1) = spV what i place (rpV q V k) := by
    rw [rpV, upN_s, hrp k (Nat.le_refl k), hsp]
  refine ⟨h1, h2, by omega, upd_s _ _ _, rfl, ?_, by rw [hlast]; exact hS, by rw [hlast]; exact hN, ?_, ?_⟩
  · intro j hj
    by_cases e : j = k
    · subst e
      rw [upd_s, upN_s]
      exact ⟨rfl, ok⟩
    · rw [upd_n _ _ (by omega), hq j (by omega)]
      exact h6 j (by omega)
  · intro j hj
    rw [hrp j (by omega)]
    intro x hx
    show past' (35 * j + x) = _
    rw [hpast]
    by_cases e : j = k
    · subst e
      rw [if_pos (by omega), show 35 * j + x - 35 * j = x by omega]
      exact h8 x hx
    · rw [if_neg (by omega)]
      exact h9 j (by omega) x hx
  · intro t ht
    rw [upd_n _ _ (show t ≠ 3 by omega)]
    rcases h10 t ht with z | ⟨q', k', z0, z1, z2, z3, z4, z5, z6⟩
    · exact Or.inl z
    · refine Or.inr ⟨q', k', z0, z1, z2, z3, fun j hj => ?_, z5, z6⟩
      rw [upd_n _ _ (by omega)]
      exact z4 j hj
