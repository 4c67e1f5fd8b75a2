/-! ===== pure: a text is read ===== -/
/-- text t has K bytes, on both sides -/
def TX (t K : Nat) (sizes items rsz rit : Nat → Int32) : Prop := t < 4 ∧ K ≤ 60 ∧ sizes t = nI K ∧ rsz t = nI K ∧ ∀ i, i < K → items (60 * t + i) = rit (60 * t + i) ∧ byteR (items (60 * t + i))
theorem kd_eq (x : Int32) : (∃ d, d < 6 ∧ fX0_kindBy x = some (nI d) ∧ fX5_kindOf x = some (nI d)) ∨ (fX0_kindBy x = some (-9) ∧ fX5_kindOf x = some (-9)) := by
  by_cases c0 : x = 112
  · subst c0; exact Or.inl ⟨0, by decide, by decide, by decide⟩
  by_cases c1 : x = 116
  · subst c1; exact Or.inl ⟨1, by decide, by decide, by decide⟩
  by_cases c2 : x = 108
  · subst c2; exact Or.inl ⟨2, by decide, by decide, by decide⟩
  by_cases c3 : x = 99
  · subst c3; exact Or.inl ⟨3, by decide, by decide, by decide⟩
  by_cases c4 : x = 104
  · subst c4; exact Or.inl ⟨4, by decide, by decide, by decide⟩
  by_cases c5 : x = 105
  · subst c5; exact Or.inl ⟨5, by decide, by decide, by decide⟩
  refine Or.inr ⟨?_, ?_⟩
  · unfold fX0_kindBy
    rw [if_neg c3, if_neg c4, if_neg c5, if_neg c2, if_neg c0, if_neg c1]
  · unfold fX5_kindOf
    rw [if_neg c0, if_neg c1, if_neg c2, if_neg c3, if_neg c4, if_neg c5]
theorem byte_ne {x : Int32} (h : byteR x) : ¬ x = 1000 ∧ ¬ x = -1000 := by
  obtain ⟨h1, h2⟩ := h
  constructor
  · intro e; subst e; exact absurd h2 (by decide)
  · intro e; subst e; exact absurd h1 (by decide)
section
variable {t K : Nat} {sizes items rsz rit : Nat → Int32}
theorem c_sign1 (h : TX t K sizes items rsz rit) {p : Nat} (hp : p < K) : fX0_sign 240 4 (nI t) (nI p) 60 items sizes = some (rit (60 * t + p)) := by
  obtain ⟨ht, hK, s1, s2, hi⟩ := h
  have eg : fX2_get 240 4 60 items sizes (nI t) (nI p) = some (items (60 * t + p)) := s_get (N := 240) (m := 4) (w := 60) (by decide) (by decide) (by decide) ht hK s1 hp (by omega)
  unfold fX0_sign
  rw [s_has1 (by decide) ht (by omega) s1 hp, bd1_s, if_neg one_ne, eg, bd1_s, (hi p hp).1]
theorem c_sign0 (h : TX t K sizes items rsz rit) {p : Nat} (hp : K ≤ p) (hp2 : p < 2 ^ 31) : fX0_sign 240 4 (nI t) (nI p) 60 items sizes = some 1000 := by
  obtain ⟨ht, hK, s1, s2, hi⟩ := h
  unfold fX0_sign
  rw [s_has0 (by decide) ht s1 (Or.inr (nI_le hp hp2)), bd1_s, if_pos rfl]
theorem m_look1 (h : TX t K sizes items rsz rit) {p : Nat} (hp : p < K) : fX5_look (nI p) rsz rit (nI t) = some (rit (60 * t + p)) := by
  obtain ⟨ht, hK, s1, s2, hi⟩ := h
  unfold fX5_look
  rw [a4 ht, bd1_s, s2, if_neg (nI_ge hp (by omega)), tix, ald_nI (by omega) (by decide), bd1_s]
theorem m_look0 (h : TX t K sizes items rsz rit) {p : Nat} (hp : K ≤ p) (hp2 : p < 2 ^ 31) : fX5_look (nI p) rsz rit (nI t) = some (-1000) := by
  obtain ⟨ht, hK, s1, s2, hi⟩ := h
  unfold fX5_look
  rw [a4 ht, bd1_s, s2, if_pos (nI_le hp hp2)]
theorem m_lookE (h : TX t K sizes items rsz rit) {p : Nat} (hp2 : p < 2 ^ 31) : ∃ x, fX5_look (nI p) rsz rit (nI t) = some x := by
  by_cases c : p < K
  · exact ⟨_, m_look1 h c⟩
  · exact ⟨_, m_look0 h (by omega) hp2⟩
theorem tx_byte (h : TX t K sizes items rsz rit) {p : Nat} (hp : p < K) : byteR (rit (60 * t + p)) := by
  obtain ⟨ht, hK, s1, s2, hi⟩ := h
  have := hi p hp
  rw [this.1] at this
  exact this.2
theorem bl_L (h : TX t K sizes items rsz rit) : ∀ (m p k fuel fuel2 : Nat), p ≤ K → K - p ≤ m → m + k ≤ 60 → m < fuel → m < fuel2 → ∃ p', p ≤ p' ∧ p' ≤ K ∧ fX0_skipBlanks_L2 240 4 (nI t) 60 items sizes fuel (nI p) (nI k) = some (nI p') ∧ fX5_blanks_L0 (-9) rsz rit (nI t) fuel2 (nI p) = some (nI p') := by
  have hK := h.2.1
  intro m
  induction m with
  | zero =>
    intro p k fuel fuel2 hp h1 h2 h3 h4
    obtain ⟨f, rfl⟩ : ∃ f, fuel = f + 1 := ⟨fuel - 1, by omega⟩
    obtain ⟨g, rfl⟩ : ∃ f, fuel2 = f + 1 := ⟨fuel2 - 1, by omega⟩
    refine ⟨p, Nat.le_refl p, hp, ?_, ?_⟩
    · show fX0_skipBlanks_B2 _ _ _ _ _ _ _ _ _ = _
      unfold fX0_skipBlanks_B2
      by_cases c : (60 : Int32) ≤ nI k
      · rw [if_pos c]
      · rw [if_neg c, c_sign0 h (by omega) (by omega), bd1_s, if_neg (by decide)]
    · show fX5_blanks_B0 _ _ _ _ _ _ = _
      unfold fX5_blanks_B0
      rw [if_pos rfl, m_look0 h (by omega) (by omega), bd1_s, if_neg (by decide)]
  | succ m ih =>
    intro p k fuel fuel2 hp h1 h2 h3 h4
    obtain ⟨f, rfl⟩ : ∃ f, fuel = f + 1 := ⟨fuel - 1, by omega⟩
    obtain ⟨g, rfl⟩ : ∃ f, fuel2 = f + 1 := ⟨fuel2 - 1, by omega⟩
    have c60 : ¬ (60 : Int32) ≤ nI k := nI_ge (b := 60) (by omega) (by decide)
    have u4 : fX0_skipBlanks_L2 240 4 (nI t) 60 items sizes (f + 1) (nI p) (nI k) = fX0_skipBlanks_B2 240 4 (nI t) 60 items sizes (fX0_skipBlanks_L2 240 4 (nI t) 60 items sizes f) (nI p) (nI k) := rfl
    have u5 : fX5_blanks_L0 (-9) rsz rit (nI t) (g + 1) (nI p) = fX5_blanks_B0 (-9) rsz rit (nI t) (fX5_blanks_L0 (-9) rsz rit (nI t) g) (nI p) := rfl
    rw [u4, u5]
    unfold fX0_skipBlanks_B2 fX5_blanks_B0
    rw [if_neg c60, if_pos rfl]
    by_cases c : p < K
    · rw [c_sign1 h c, m_look1 h c, bd1_s, bd1_s]
      by_cases cb : rit (60 * t + p) = 32
      · rw [if_pos cb, if_pos cb, nI_1, nI_1]
        obtain ⟨p', q1, q2, q3, q4⟩ := ih (p + 1) (k + 1) f g (by omega) (by omega) (by omega) (by omega) (by omega)
        exact ⟨p', by omega, q2, q3, q4⟩
      · rw [if_neg cb, if_neg cb]
        exact ⟨p, Nat.le_refl p, hp, rfl, rfl⟩
    · rw [c_sign0 h (by omega) (by omega), m_look0 h (by omega) (by omega), bd1_s, bd1_s, if_neg (by decide), if_neg (by decide)]
      exact ⟨p, Nat.le_refl p, hp, rfl, rfl⟩
theorem bl_eq (h : TX t K sizes items rsz rit) {p : Nat} (hp : p ≤ K) : ∃ p', p ≤ p' ∧ p' ≤ K ∧ fX0_skipBlanks 240 4 (nI t) (nI p) 60 items sizes = some (nI p') ∧ fX5_blanks (nI p) (-9) rsz rit (nI t) = some (nI p') := by
  have hK := h.2.1
  obtain ⟨p', h1, h2, e4, e5⟩ := bl_L h (K - p) p 0 FU FU hp (Nat.le_refl _) (by omega) (Nat.lt_of_le_of_lt (Nat.le_trans (Nat.sub_le _ _) hK) (by decide)) (Nat.lt_of_le_of_lt (Nat.le_trans (Nat.sub_le _ _) hK) (by decide))
  have e4 : fX0_skipBlanks_L2 240 4 (nI t) 60 items sizes FU (nI p) 0 = _ := e4
  exact ⟨p', h1, h2, by unfold fX0_skipBlanks; rw [e4, bd1_s], by unfold fX5_blanks; rw [e5, bd1_s]⟩
theorem bl_w {w : Nat} (hw : w < 2 ^ 31) (x y : Int32) : fX5_blanks x (nI w) rsz rit y = some x := by
  have hL : ∀ f, fX5_blanks_L0 (nI w) rsz rit y (f + 1) x = some x := by
    intro f
    show fX5_blanks_B0 _ _ _ _ _ _ = _
    unfold fX5_blanks_B0
    rw [if_neg (m1_ne hw).2]
  have hL : fX5_blanks_L0 (nI w) rsz rit y FU x = some x := hL 99999
  unfold fX5_blanks
  rw [hL, bd1_s]
theorem fg (h : TX t K sizes items rsz rit) {p a b : Nat} (hp : p ≤ 1000) (hab : a ≤ b) (hb : b ≤ 9) :
    (∃ d, a ≤ d ∧ d ≤ b ∧ p < K ∧ fX0_figure 240 4 (nI t) (nI p) 60 items sizes (nI a) (nI b) = some (nI d, nI (p + 1)) ∧ fX5_figure (nI p) (-9) rsz rit (nI t) (nI a) (nI b) = some (nI d, nI (p + 1), -9)) ∨
    (fX0_figure 240 4 (nI t) (nI p) 60 items sizes (nI a) (nI b) = some (-9, nI p) ∧ fX5_figure (nI p) (-9) rsz rit (nI t) (nI a) (nI b) = some (0, nI (p + 1), nI p)) := by
  have h9 : ¬ nI p = -9 := (m1_ne (by omega)).2
  unfold fX0_figure fX5_figure fX5_figure_j28 fX5_fails fX5_fails_j18
  by_cases c : p < K
  · rw [c_sign1 h c, m_look1 h c, bd1_s, bd1_s, in0_eq, bd1_s]
    generalize rit (60 * t + p) - 48 = x
    by_cases c1 : x < nI a
    · rw [if_pos c1, if_pos c1, if_pos rfl, if_pos rfl, bd1_s, if_neg h9, nI_1]
      exact Or.inr ⟨rfl, rfl⟩
    · rw [if_neg c1, if_neg c1]
      by_cases c2 : x ≤ nI b
      · have c3 : ¬ nI b < x := Int32.not_lt.mpr c2
        rw [if_pos c2, if_neg c3, if_neg one_ne, if_pos rfl, nI_1]
        obtain ⟨d, hd, rfl⟩ : ∃ d, d < 2 ^ 31 ∧ x = nI d := nI_of (fun z => c1 (by
          rw [Int32.lt_iff_toInt_lt, nI_toInt (by omega)]
          rw [Int32.lt_iff_toInt_lt] at z
          have e0 : (0 : Int32).toInt = 0 := by decide
          omega))
        have g1 : a ≤ d := by
          rw [nI_ltI (by omega) (by omega)] at c1
          omega
        have g2 : d ≤ b := (nI_leI hd (by omega)).mp c2
        exact Or.inl ⟨d, g1, g2, c, rfl, rfl⟩
      · have c3 : nI b < x := Int32.not_le.mp c2
        rw [if_neg c2, if_pos c3, if_pos rfl, if_pos rfl, bd1_s, if_neg h9, nI_1]
        exact Or.inr ⟨rfl, rfl⟩
  · have e1 : (1000 : Int32) - 48 = nI 952 := by decide
    have e2 : ((-1000 : Int32) - 48).toInt = -1048 := by decide
    have c1 : ¬ nI 952 < nI a := nI_nlt (by omega) (by decide)
    have c2 : ¬ nI 952 ≤ nI b := nI_ge (by omega) (by decide)
    have c3 : (-1000 : Int32) - 48 < nI a := by
      rw [Int32.lt_iff_toInt_lt, e2, nI_toInt (by omega)]
      omega
    rw [c_sign0 h (by omega) (by omega), m_look0 h (by omega) (by omega), bd1_s, bd1_s, in0_eq, bd1_s, e1, if_neg c1, if_neg c2, if_pos c3, if_pos rfl, if_pos rfl, bd1_s, if_neg h9, nI_1]
    exact Or.inr ⟨rfl, rfl⟩
theorem fg_w (h : TX t K sizes items rsz rit) {p w : Nat} (hp : p ≤ 1000) (hw : w < 2 ^ 31) (lo hi : Int32) : fX5_figure (nI p) (nI w) rsz rit (nI t) lo hi = some (0, nI (p + 1), nI w) := by
  have h9 : ¬ nI w = -9 := (m1_ne hw).2
  obtain ⟨x, e⟩ := m_lookE h (p := p) (by omega)
  unfold fX5_figure fX5_figure_j28 fX5_fails fX5_fails_j18
  rw [e, bd1_s, in0_eq, bd1_s, if_neg h9, bd1_s, if_neg h9, nI_1]
  exact ite_self _
theorem pl_w (h : TX t K sizes items rsz rit) {p w : Nat} (hp : p ≤ 900) (hw : w < 2 ^ 31) : ∃ x, fX5_place (nI p) (nI w) rsz rit (nI t) = some (x, nI (p + 2), nI w) := by
  have h9 : ¬ nI w = -9 := (m1_ne hw).2
  exact ⟨_, by unfold fX5_place; rw [fg_w h (by omega) hw, bd3_s, fg_w h (by omega) hw, bd3_s, if_neg h9]⟩
theorem rp_w (h : TX t K sizes items rsz rit) {p w : Nat} (hp : p ≤ 900) (hw : w < 2 ^ 31) (draft : Nat → Int32) (x2 x3 : Int32) : fX5_readsPeel_j60 (nI p) (nI w) rsz rit draft (nI t) x2 x3 = some (nI (p + 5), nI w, draft) := by
  have h9 : ¬ nI w = -9 := (m1_ne hw).2
  unfold fX5_readsPeel_j60
  rw [nI_1]
  have hp' : p + 1 ≤ 900 ∨ p = 900 := by omega
  have key : ∃ x, fX5_place (nI (p + 1)) (nI w) rsz rit (nI t) = some (x, nI (p + 1 + 2), nI w) := by
    exact ⟨_, by unfold fX5_place; rw [fg_w h (by omega) hw, bd3_s, fg_w h (by omega) hw, bd3_s, if_neg h9]⟩
  obtain ⟨x, e⟩ := key
  rw [e, bd3_s, fg_w h (by omega) hw, bd3_s, fg_w h (by omega) hw, bd3_s, if_neg h9]
end
/-- k peels are read, and nothing more -/
def PS (k : Nat) (v : Nat → Nat) : Prop := WF v k 0 ∧ v 3 = 0 ∧ v 4 = 0 ∧ 1 ≤ v 0 ∧ (∀ x, 5 + 5 * k ≤ x → v x = 0) ∧ ∀ i, i < k → lfV v i = 0
def adV (v : Nat → Nat) (k kd pl ln dn : Nat) : Nat → Nat := upN (upN (upN (upN (upN v (5 + 5 * k) kd) (6 + 5 * k) pl) (7 + 5 * k) ln) (8 + 5 * k) dn) 1 (k + 1)
section
variable {v : Nat → Nat} {k kd pl ln dn : Nat}
theorem ad_ne {x : Nat} (h1 : x ≠ 1) (h5 : x ≠ 5 + 5 * k) (h6 : x ≠ 6 + 5 * k) (h7 : x ≠ 7 + 5 * k) (h8 : x ≠ 8 + 5 * k) : adV v k kd pl ln dn x = v x := by
  unfold adV
  rw [upN_n _ _ h1, upN_n _ _ h8, upN_n _ _ h7, upN_n _ _ h6, upN_n _ _ h5]
theorem ad_new : kdV (adV v k kd pl ln dn) k = kd ∧ isV (adV v k kd pl ln dn) k = pl ∧ lnV (adV v k kd pl ln dn) k = ln ∧ dnV (adV v k kd pl ln dn) k = dn ∧ lfV (adV v k kd pl ln dn) k = v (9 + 5 * k) := by
  refine ⟨?_, ?_, ?_, ?_, ?_⟩
  · unfold kdV adV; rw [upN_n _ _ (by omega), upN_n _ _ (by omega), upN_n _ _ (by omega), upN_n _ _ (by omega), upN_s]
  · unfold isV adV; rw [upN_n _ _ (by omega), upN_n _ _ (by omega), upN_n _ _ (by omega), upN_s]
  · unfold lnV adV; rw [upN_n _ _ (by omega), upN_n _ _ (by omega), upN_s]
  · unfold dnV adV; rw [upN_n _ _ (by omega), upN_s]
  · unfold lfV; exact ad_ne (by omega) (by omega) (by omega) (by omega) (by omega)
theorem ad_old {i : Nat} (hi : i < k) : kdV (adV v k kd pl ln dn) i = kdV v i ∧ isV (adV v k kd pl ln dn) i = isV v i ∧ lnV (adV v k kd pl ln dn) i = lnV v i ∧ dnV (adV v k kd pl ln dn) i = dnV v i ∧ lfV (adV v k kd pl ln dn) i = lfV v i :=
  ⟨ad_ne (by omega) (by omega) (by omega) (by omega) (by omega), ad_ne (by omega) (by omega) (by omega) (by omega) (by omega), ad_ne (by omega) (by omega) (by omega) (by omega) (by omega), ad_ne (by omega) (by omega) (by omega) (by omega) (by omega), ad_ne (by omega) (by omega) (by omega) (by omega) (by omega)⟩
theorem PS.add (h : PS k v) (hk : k < 6) (hkd : kd < 6) (hpl : pl < 16) (hln : 1 ≤ ln ∧ ln ≤ 4) (hdn : dn < 2) : PS (k + 1) (adV v k kd pl ln dn) := by
  obtain ⟨⟨w1, w2, w3, w4, w5, w6, w7, w8⟩, h3, h4, h0, hz, hl⟩ := h
  have e : ∀ x, x < 5 → x ≠ 1 → adV v k kd pl ln dn x = v x := fun x hx h1 => ad_ne h1 (by omega) (by omega) (by omega) (by omega)
  refine ⟨⟨upN_s _ _ _, by omega, by rw [e 2 (by decide) (by decide)]; exact w3, by rw [e 4 (by decide) (by decide)]; exact w4, by rw [e 4 (by decide) (by decide)]; exact w5, by rw [e 0 (by decide) (by decide)]; exact w6, fun _ => by rw [e 0 (by decide) (by decide)]; exact h0, ?_⟩, by rw [e 3 (by decide) (by decide)]; exact h3, by rw [e 4 (by decide) (by decide)]; exact h4, by rw [e 0 (by decide) (by decide)]; exact h0, ?_, ?_⟩
  · intro i hi
    by_cases ei : i = k
    · subst ei
      obtain ⟨a0, a1, a2, a3, a4⟩ := ad_new (v := v) (k := i) (kd := kd) (pl := pl) (ln := ln) (dn := dn)
      rw [a0, a1, a2, a3, a4, hz _ (by omega)]
      exact ⟨hkd, hpl, hln, hdn, by decide⟩
    · obtain ⟨a0, a1, a2, a3, a4⟩ := ad_old (v := v) (k := k) (kd := kd) (pl := pl) (ln := ln) (dn := dn) (i := i) (by omega)
      rw [a0, a1, a2, a3, a4]
      exact w8 i (by omega)
  · intro x hx
    rw [ad_ne (by omega) (by omega) (by omega) (by omega) (by omega)]
    exact hz x (by omega)
  · intro i hi
    by_cases ei : i = k
    · subst ei
      rw [(ad_new (v := v) (k := i) (kd := kd) (pl := pl) (ln := ln) (dn := dn)).2.2.2.2]
      exact hz _ (by omega)
    · rw [(ad_old (v := v) (k := k) (kd := kd) (pl := pl) (ln := ln) (dn := dn) (i := i) (by omega)).2.2.2.2]
      exact hl i (by omega)
theorem PS.lf (h : PS k v) : lfN v k = 0 := by
  have : ∀ n, (∀ i, i < n → lfV v i = 0) → lfN v n = 0 := by
    intro n
    induction n with
    | zero => intro _; rfl
    | succ n ih =>
      intro hh
      show lfN v n + lfV v n * 2 ^ n = 0
      rw [ih (fun i hi => hh i (by omega)), hh n (by omega), Nat.zero_mul]
  exact this k h.2.2.2.2.2
variable {kinds places lengths downs covers : Nat → Int32}
/-- a peel comes to the class's slice -/
theorem c_add (h : PS k v) (hk : k < 6) (hkd : kd < 6) (hpl : pl < 16) (hln : 1 ≤ ln ∧ ln ≤ 4) (hdn : dn < 2) (hs : SL (nI k) (nI (v 0)) 0 0 0 0 kinds places lengths downs covers v k) :
    ∃ kn' pl' ln' dn' cv', fX3_add (nI k) kinds places lengths downs covers (nI kd) (nI pl) (nI ln) (nI dn) = some (nI (k + 1), kn', pl', ln', dn', cv') ∧ SL (nI (k + 1)) (nI (adV v k kd pl ln dn 0)) 0 0 0 0 kn' pl' ln' dn' cv' (adV v k kd pl ln dn) (k + 1) := by
  have c6 : ¬ (6 : Int32) ≤ nI k := nI_ge (b := 6) hk (by decide)
  have hP := h.add hk hkd hpl hln hdn
  obtain ⟨s1, s2, s3, s4, s5, s6, s7⟩ := hs
  have e1 : nI k + 1 = nI (k + 1) := nI_1 k
  have e2 : nI (k + 1) - 1 = nI k := nI_pred k
  refine ⟨upd kinds k (nI kd), upd places k (nI pl), upd lengths k (nI ln), upd downs k (nI dn), upd covers k (nI (covN kd pl ln dn)), ?_, ?_⟩
  · unfold fX3_add
    rw [if_neg (nI_pos (by omega)), if_neg c6, t6 hk, bd1_s, t6 hk, bd1_s, e1, e2]
    unfold fX3_settle
    rw [c_has (by omega) (Nat.lt_succ_self k), bd1_s, if_neg one_ne, t6 hk, bd1_s, t6 hk, bd1_s, a6 hk, upd_s, bd1_s, a6 hk, upd_s, bd1_s, (cov_ok hkd hpl hln hdn).1, bd1_s, t6 hk, bd1_s, bd3_s]
  · have e : ∀ x, x < 5 → x ≠ 1 → adV v k kd pl ln dn x = v x := fun x hx h1 => ad_ne h1 (by omega) (by omega) (by omega) (by omega)
    refine ⟨rfl, rfl, by rw [hP.lf]; rfl, by rw [e 4 (by decide) (by decide)]; exact s4, by rw [e 2 (by decide) (by decide)]; exact s5, by rw [e 3 (by decide) (by decide)]; exact s6, ?_⟩
    intro i hi
    by_cases ei : i = k
    · subst ei
      obtain ⟨a0, a1, a2, a3, -⟩ := ad_new (v := v) (k := i) (kd := kd) (pl := pl) (ln := ln) (dn := dn)
      unfold cvV
      rw [a0, a1, a2, a3, upd_s, upd_s, upd_s, upd_s, upd_s]
      exact ⟨rfl, rfl, rfl, rfl, rfl⟩
    · obtain ⟨a0, a1, a2, a3, -⟩ := ad_old (v := v) (k := k) (kd := kd) (pl := pl) (ln := ln) (dn := dn) (i := i) (by omega)
      unfold cvV
      rw [a0, a1, a2, a3, upd_n _ _ ei, upd_n _ _ ei, upd_n _ _ ei, upd_n _ _ ei, upd_n _ _ ei]
      exact s7 i (by omega)
end
