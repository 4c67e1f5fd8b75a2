/-! ===== pure: sets of licked places: gap, sure ===== -/
theorem and2 (x y : Nat) : x &&& y = 2 * (x / 2 &&& y / 2) + x % 2 * (y % 2) := by
  have h1 : (x &&& y) / 2 = x / 2 &&& y / 2 := Nat.and_div_two
  have h2 : (x &&& y) % 2 = (x % 2) &&& (y % 2) := Nat.and_mod_two_pow (n := 1)
  have h3 : (x % 2) &&& (y % 2) = x % 2 * (y % 2) := by
    rcases Nat.mod_two_eq_zero_or_one x with a | a <;> rcases Nat.mod_two_eq_zero_or_one y with b | b <;> rw [a, b] <;> rfl
  omega
theorem sub2 {s L : Nat} : s &&& L = s ↔ (s / 2 &&& L / 2 = s / 2 ∧ s % 2 ≤ L % 2) := by
  have e := and2 s L
  rcases Nat.mod_two_eq_zero_or_one s with a | a <;> rcases Nat.mod_two_eq_zero_or_one L with b | b <;> rw [a, b] at e ⊢ <;> omega
theorem sub_c : ∀ (w b a : Nat), a < 2 ^ w → b &&& a = b → (b + (2 ^ w - 1 - a)) &&& a = b
  | 0, b, a, ha, h => by
    have : a = 0 := Nat.lt_one_iff.mp ha
    subst this
    rw [Nat.and_zero] at h ⊢
    exact h
  | w + 1, b, a, ha, h => by
    obtain ⟨h1, h2⟩ := sub2.mp h
    rw [Nat.pow_succ] at ha ⊢
    have ih := sub_c w (b / 2) (a / 2) (by omega) h1
    have e1 : (b + (2 ^ w * 2 - 1 - a)) / 2 = b / 2 + (2 ^ w - 1 - a / 2) := by omega
    have e2 : (b + (2 ^ w * 2 - 1 - a)) % 2 = b % 2 + 1 - a % 2 := by omega
    rw [and2, e1, e2, ih]
    rcases Nat.mod_two_eq_zero_or_one a with q | q <;> rw [q] at h2 ⊢ <;> omega
theorem nx_ok : ∀ (w s L : Nat), L < 2 ^ w → s &&& L = s → s ≠ L → s < (s + (2 ^ w - L)) &&& L ∧ ∀ y, s < y → y < (s + (2 ^ w - L)) &&& L → ¬ y &&& L = y
  | 0, s, L, ha, h, hne => by
    have : L = 0 := Nat.lt_one_iff.mp ha
    subst this
    rw [Nat.and_zero] at h
    exact absurd h.symm hne
  | w + 1, s, L, ha, h, hne => by
    obtain ⟨h1, h2⟩ := sub2.mp h
    rw [Nat.pow_succ] at ha ⊢
    have hs : s / 2 ≤ L / 2 := by rw [← h1]; exact Nat.and_le_right
    by_cases c : s % 2 = L % 2
    · have ih := nx_ok w (s / 2) (L / 2) (by omega) h1 (by omega)
      have e1 : (s + (2 ^ w * 2 - L)) / 2 = s / 2 + (2 ^ w - L / 2) := by omega
      have e2 : (s + (2 ^ w * 2 - L)) % 2 = 0 := by omega
      rw [and2, e1, e2, Nat.zero_mul, Nat.add_zero]
      refine ⟨by omega, fun y hy1 hy2 hy => ?_⟩
      obtain ⟨k1, k2⟩ := sub2.mp hy
      by_cases d : y / 2 = s / 2
      · omega
      · exact ih.2 (y / 2) (by omega) (by omega) k1
    · have ih := sub_c w (s / 2) (L / 2) (by omega) h1
      have e1 : (s + (2 ^ w * 2 - L)) / 2 = s / 2 + (2 ^ w - 1 - L / 2) := by omega
      have e2 : (s + (2 ^ w * 2 - L)) % 2 = 1 := by omega
      have e3 : L % 2 = 1 := by omega
      rw [and2, e1, e2, e3, ih]
      refine ⟨by omega, fun y hy1 hy2 _ => by omega⟩
def sbP (L : Nat) (x : Nat) : Bool := decide (x &&& L = x)
theorem sbP_i {L x : Nat} : sbP L x = true ↔ x &&& L = x := by unfold sbP; exact decide_eq_true_iff
theorem sb_e {L m : Nat} : sbP L (2 * m) = true ↔ sbP (L / 2) m = true := by
  rw [sbP_i, sbP_i, sub2, show 2 * m / 2 = m by omega, show 2 * m % 2 = 0 by omega]
  exact ⟨fun h => h.1, fun h => ⟨h, Nat.zero_le _⟩⟩
theorem sb_o {L m : Nat} : sbP L (2 * m + 1) = true ↔ (sbP (L / 2) m = true ∧ L % 2 = 1) := by
  rw [sbP_i, sbP_i, sub2, show (2 * m + 1) / 2 = m by omega, show (2 * m + 1) % 2 = 1 by omega]
  exact ⟨fun h => ⟨h.1, by omega⟩, fun h => ⟨h.1, by omega⟩⟩
theorem ct_2 (L : Nat) : ∀ m, ctP (sbP L) (2 * m) = (1 + L % 2) * ctP (sbP (L / 2)) m
  | 0 => by simp [ctP]
  | m + 1 => by
    rw [show 2 * (m + 1) = 2 * m + 1 + 1 by omega]
    have ih := ct_2 L m
    by_cases c : sbP (L / 2) m = true
    · rw [ctP_1 c, Nat.mul_add, ← ih]
      rcases Nat.mod_two_eq_zero_or_one L with q | q
      · rw [ctP_0 (fun z => by have := (sb_o.mp z).2; omega), ctP_1 (sb_e.mpr c), q]
      · rw [ctP_1 (sb_o.mpr ⟨c, q⟩), ctP_1 (sb_e.mpr c), q]
    · rw [ctP_0 c, ← ih, ctP_0 (fun z => c (sb_o.mp z).1), ctP_0 (fun z => c (sb_e.mp z))]
def prN (L : Nat) : Nat → Nat
  | 0 => 0
  | w + 1 => L % 2 + prN (L / 2) w
theorem ct_pow : ∀ (w L : Nat), ctP (sbP L) (2 ^ w) = 2 ^ prN L w
  | 0, L => by
    show ctP (sbP L) (0 + 1) = 1
    rw [ctP_1 (sbP_i.mpr (Nat.zero_and L))]
    rfl
  | w + 1, L => by
    rw [Nat.pow_succ, Nat.mul_comm, ct_2, ct_pow w (L / 2), prN, Nat.pow_add]
    rcases Nat.mod_two_eq_zero_or_one L with q | q <;> rw [q]
theorem pr_pc (L : Nat) : prN L 16 = pcN L := by
  simp only [prN, pcN, Nat.div_div_eq_div_mul, Nat.reduceMul, Nat.add_assoc, Nat.add_zero]
theorem ctP_mono (P : Nat → Bool) {a : Nat} : ∀ {b : Nat}, a ≤ b → ctP P a ≤ ctP P b
  | 0, h => by rw [Nat.le_zero.mp h]; exact Nat.le_refl _
  | b + 1, h => by
    by_cases e : a = b + 1
    · rw [e]; exact Nat.le_refl _
    · have := ctP_mono P (a := a) (b := b) (by omega)
      rw [ctP]
      split <;> omega
theorem rk_lt {L s : Nat} (hL : L < 65536) (hp : pcN L ≤ 8) (hs : s &&& L = s) : ctP (sbP L) s < 256 := by
  have h1 := ctP_1 (sbP_i.mpr hs)
  have hle : s ≤ L := by rw [← hs]; exact Nat.and_le_right
  have h2 := ctP_mono (sbP L) (a := s + 1) (b := 2 ^ 16) (by omega)
  rw [ct_pow, pr_pc] at h2
  have h3 : 2 ^ pcN L ≤ 2 ^ 8 := Nat.pow_le_pow_right (by decide) hp
  omega
/-- over a stretch in which nothing fits -/
theorem skip_P {P : Nat → Bool} {c a : Nat} : ∀ {b : Nat}, a ≤ b → (∀ y, a ≤ y → y < b → ¬ P y = true) → ctP P b = ctP P a ∧ leP P b = leP P a ∧ alP P c b = alP P c a ∧ anP P b = anP P a
  | 0, h, _ => by rw [Nat.le_zero.mp h]; exact ⟨rfl, rfl, rfl, rfl⟩
  | b + 1, h, hy => by
    by_cases e : a = b + 1
    · rw [e]; exact ⟨rfl, rfl, rfl, rfl⟩
    · have ih := skip_P (P := P) (c := c) (a := a) (b := b) (by omega) (fun y h1 h2 => hy y h1 (by omega))
      have hb := hy b (by omega) (by omega)
      rw [ctP_0 hb, leP_0 hb, alP_0 hb, anP_0 hb]
      exact ih
theorem n_subw {s L : Nat} (hL : L < 2 ^ 32) : nI s - nI L = nI (s + (2 ^ 32 - L)) := by
  have e0 : nI (2 ^ 32) = 0 := by decide
  have h : nI (s + (2 ^ 32 - L)) + nI L = nI s := by
    rw [nI_add, show s + (2 ^ 32 - L) + L = s + 2 ^ 32 by omega, ← nI_add, e0, Int32.add_zero]
  rw [← h, Int32.add_sub_cancel]
theorem sub_iff {s L : Nat} (hs : s < 2 ^ 32) : s &&& (L ^^^ 4294967295) = 0 ↔ s &&& L = s := by
  rw [Nat.and_xor_distrib_left, Nat.and_comm s 4294967295, and_m1 hs]
  constructor
  · intro h
    have : ((s &&& L) ^^^ s) ^^^ s = 0 ^^^ s := by rw [h]
    rw [Nat.xor_assoc, Nat.xor_self, Nat.xor_zero, Nat.zero_xor] at this
    exact this
  · intro h
    rw [h, Nat.xor_self]
/-- which sets of licked places fit -/
def gpP (q C L x : Nat) (s : Nat) : Bool := sbP L s && decide (lnsN q (C ||| s) = x)
theorem gpP_i {q C L x s : Nat} : gpP q C L x s = true ↔ (s &&& L = s ∧ lnsN q (C ||| s) = x) := by
  unfold gpP
  rw [Bool.and_eq_true, sbP_i, decide_eq_true_iff]
section
variable {size need lifted licked morning tally : Int32} {kinds places lengths downs covers now : Nat → Int32} {v : Nat → Nat} {n B : Nat}
theorem c_gap1 {q C L x s : Nat} (hn : 0 < n) (hn6 : n ≤ 6) (hq : q ≤ 4) (hC : C < 65536) (hL : L < 65536) (hp : pcN L ≤ 8) (hx : x < 2 ^ 31) (hs : s &&& L = s) (rec : Int32 → Int32 → Int32 → Int32 → Int32 → Int32 → Option (Int32 × Int32 × Int32 × Int32)) :
    fX4_fitGapSets_B20 (nI n) (nI q) (nI L) (nI x) (nI C) rec (nI (ctP (gpP q C L x) s)) (leP (gpP q C L x) s) (nI (alP (gpP q C L x) 4294967295 s)) (nI (anP (gpP q C L x) s)) (nI s) (nI (ctP (sbP L) s)) = fX4_fitGapSets_j50 rec (nI n) (nI q) (nI L) (nI (ctP (gpP q C L x) (s + 1))) (leP (gpP q C L x) (s + 1)) (nI (alP (gpP q C L x) 4294967295 (s + 1))) (nI (anP (gpP q C L x) (s + 1))) (nI x) (nI C) (nI s) (nI (ctP (sbP L) s)) := by
  have hle : s ≤ L := by rw [← hs]; exact Nat.and_le_right
  have hr := rk_lt hL hp hs
  have hl := lnsN_lt q (C ||| s)
  have c1 : ¬ (256 : Int32) ≤ nI (ctP (sbP L) s) := nI_ge (b := 256) hr (by decide)
  have hcs : C ||| s < 65536 := Nat.or_lt_two_pow (n := 16) hC (by omega)
  unfold fX4_fitGapSets_B20
  rw [if_neg c1, n_or, c_linesBy hn hn6 hq hcs, bd1_s]
  by_cases c : lnsN q (C ||| s) = x
  · rw [if_pos (by rw [c]), add_P (by omega) (gpP_i.mpr ⟨hs, c⟩), bd4_s]
  · have cP : ¬ gpP q C L x s = true := fun z => c (gpP_i.mp z).2
    rw [if_neg (nI_le4 (by omega) hx c), ctP_0 cP, leP_0 cP, alP_0 cP, anP_0 cP]
theorem c_gap_L {q C L x : Nat} (hn : 0 < n) (hn6 : n ≤ 6) (hq : q ≤ 4) (hC : C < 65536) (hL : L < 65536) (hp : pcN L ≤ 8) (hx : x < 2 ^ 31) : ∀ (m s fuel : Nat), L - s ≤ m → m < fuel → s &&& L = s →
    fX4_fitGapSets_L20 (nI n) (nI q) (nI L) (nI x) (nI C) fuel (nI (ctP (gpP q C L x) s)) (leP (gpP q C L x) s) (nI (alP (gpP q C L x) 4294967295 s)) (nI (anP (gpP q C L x) s)) (nI s) (nI (ctP (sbP L) s)) = some (nI (ctP (gpP q C L x) (L + 1)), leP (gpP q C L x) (L + 1), nI (alP (gpP q C L x) 4294967295 (L + 1)), nI (anP (gpP q C L x) (L + 1))) := by
  have hend : ∀ (s f : Nat), s = L → s &&& L = s → fX4_fitGapSets_L20 (nI n) (nI q) (nI L) (nI x) (nI C) (f + 1) (nI (ctP (gpP q C L x) s)) (leP (gpP q C L x) s) (nI (alP (gpP q C L x) 4294967295 s)) (nI (anP (gpP q C L x) s)) (nI s) (nI (ctP (sbP L) s)) = some (nI (ctP (gpP q C L x) (L + 1)), leP (gpP q C L x) (L + 1), nI (alP (gpP q C L x) 4294967295 (L + 1)), nI (anP (gpP q C L x) (L + 1))) := by
    intro s f e hs
    show fX4_fitGapSets_B20 _ _ _ _ _ _ _ _ _ _ _ _ = _
    rw [c_gap1 hn hn6 hq hC hL hp hx hs]
    unfold fX4_fitGapSets_j50
    have e0 : (nI s - nI L) &&& nI L = 0 := by rw [e, Int32.sub_self, Int32.zero_and]
    rw [if_pos e0, e]
  intro m
  induction m with
  | zero =>
    intro s fuel h1 h2 hs
    obtain ⟨f, rfl⟩ : ∃ f, fuel = f + 1 := ⟨fuel - 1, by omega⟩
    have hle : s ≤ L := by rw [← hs]; exact Nat.and_le_right
    exact hend s f (by omega) hs
  | succ m ih =>
    intro s fuel h1 h2 hs
    obtain ⟨f, rfl⟩ : ∃ f, fuel = f + 1 := ⟨fuel - 1, by omega⟩
    by_cases e : s = L
    · exact hend s f e hs
    obtain ⟨g1, g2⟩ := nx_ok 32 s L (by omega) hs e
    have e1 : (nI s - nI L) &&& nI L = nI ((s + (2 ^ 32 - L)) &&& L) := by rw [n_subw (by omega), n_and]
    have g3 : ((s + (2 ^ 32 - L)) &&& L) &&& L = (s + (2 ^ 32 - L)) &&& L := by rw [Nat.and_assoc, Nat.and_self]
    have g4 : (s + (2 ^ 32 - L)) &&& L ≤ L := Nat.and_le_right
    generalize (s + (2 ^ 32 - L)) &&& L = t at g1 g2 e1 g3 g4
    show fX4_fitGapSets_B20 _ _ _ _ _ _ _ _ _ _ _ _ = _
    rw [c_gap1 hn hn6 hq hC hL hp hx hs]
    unfold fX4_fitGapSets_j50
    obtain ⟨k1, k2, k3, k4⟩ := skip_P (P := gpP q C L x) (c := 4294967295) (a := s + 1) (b := t) (by omega) (fun y y1 y2 z => g2 y (by omega) y2 (gpP_i.mp z).1)
    obtain ⟨k5, -⟩ := skip_P (P := sbP L) (c := 4294967295) (a := s + 1) (b := t) (by omega) (fun y y1 y2 z => g2 y (by omega) y2 (sbP_i.mp z))
    have hi := ih t f (by omega) (by omega) g3
    rw [k1, k2, k3, k4, k5, ctP_1 (sbP_i.mpr hs)] at hi
    rw [e1, if_neg (nI_ne0 (by omega) (by omega)), nI_1]
    exact hi
theorem c_fitGap (hs : SL size need lifted licked morning tally kinds places lengths downs covers v n) (hw : WF v n B) (hn : 0 < n) {x : Nat} (hx : x < 2 ^ 31) : fX4_fitGapSets size need lifted licked covers (nI x) = some (nI (ctP (gpP (v 0) (cdV v 0) (v 4) x) (v 4 + 1)), leP (gpP (v 0) (cdV v 0) (v 4) x) (v 4 + 1), nI (alP (gpP (v 0) (cdV v 0) (v 4) x) 4294967295 (v 4 + 1)), nI (anP (gpP (v 0) (cdV v 0) (v 4) x) (v 4 + 1))) := by
  have h4 := hw.2.2.2.1
  have e := c_gap_L (n := n) (q := v 0) (C := cdV v 0) (L := v 4) (x := x) hn hw.2.1 hw.2.2.2.2.2.1 (cdV_lt hw 0) h4 hw.2.2.2.2.1 hx (v 4) 0 FU (by omega) (Nat.lt_trans h4 (by decide)) (Nat.zero_and _)
  have e : fX4_fitGapSets_L20 (nI n) (nI (v 0)) (nI (v 4)) (nI x) (nI (cdV v 0)) FU 0 (-9) (nI 4294967295) 0 0 0 = _ := e
  unfold fX4_fitGapSets fX1_clear
  rw [bd4_s, c_coveredNow hs hw, bd1_s, hs.1, hs.2.1, hs.2.2.2.1, n_m1, e, bd4_s]
theorem m_fills (ha : AR now v) (hw : WF v n B) {s x : Nat} (hs : s < 65536) (hx : x < 2 ^ 31) : fX5_fills now (nI s) (nI x) = some (if gpP (v 0) (cdV v 0) (v 4) x s = true then 1 else 0) := by
  have e0 : fX5_coveredBut 35 now 0 = _ := m_coveredBut ha hw (but := 0) (by decide)
  have hcs : cdV v 0 ||| s < 65536 := Nat.or_lt_two_pow (n := 16) (cdV_lt hw 0) hs
  have hl := lnsN_lt (v 0) (cdV v 0 ||| s)
  have hle := Nat.and_le_left (n := s) (m := v 4 ^^^ 4294967295)
  unfold fX5_fills
  rw [r35_4 ha, bd1_s, n_m1, n_xor, n_and]
  by_cases c : s &&& v 4 = s
  · rw [if_pos (by rw [(sub_iff (by omega)).mpr c]; rfl), e0, bd1_s, n_or, m_linesOf ha hw hcs, bd1_s]
    by_cases d : lnsN (v 0) (cdV v 0 ||| s) = x
    · rw [if_pos (by rw [d]), if_pos (gpP_i.mpr ⟨c, d⟩)]
    · rw [if_neg (nI_le4 (by omega) hx d), if_neg (fun z => d (gpP_i.mp z).2)]
  · have c' : ¬ nI (s &&& (v 4 ^^^ 4294967295)) = 0 := fun z => c ((sub_iff (by omega)).mp ((nI_eq0 (by omega)).mp z))
    rw [if_neg c', if_neg (fun z => c (gpP_i.mp z).1)]
theorem m_gap_L (ha : AR now v) (hw : WF v n B) {x : Nat} (hx : x < 2 ^ 31) : ∀ (m k fuel : Nat), k + m = v 4 + 1 → m < fuel → fX5_gap_L31 now (nI x) fuel (nI (ctP (gpP (v 0) (cdV v 0) (v 4) x) k)) (leP (gpP (v 0) (cdV v 0) (v 4) x) k) (nI k) = some (nI (ctP (gpP (v 0) (cdV v 0) (v 4) x) (v 4 + 1)), leP (gpP (v 0) (cdV v 0) (v 4) x) (v 4 + 1)) := by
  have h4 := hw.2.2.2.1
  intro m
  induction m with
  | zero =>
    intro k fuel h1 h2
    obtain ⟨f, rfl⟩ : ∃ f, fuel = f + 1 := ⟨fuel - 1, by omega⟩
    have hk : k = v 4 + 1 := by omega
    subst hk
    show fX5_gap_B31 _ _ _ _ _ _ = _
    unfold fX5_gap_B31
    rw [r35_4 ha, bd1_s, if_pos (nI_lt (by omega) (by omega))]
  | succ m ih =>
    intro k fuel h1 h2
    obtain ⟨f, rfl⟩ : ∃ f, fuel = f + 1 := ⟨fuel - 1, by omega⟩
    have hc := ctP_le (gpP (v 0) (cdV v 0) (v 4) x) k
    have hi := ih (k + 1) f (by omega) (by omega)
    show fX5_gap_B31 _ _ _ _ _ _ = _
    unfold fX5_gap_B31 fX5_gap_j62 fX5_gap_j66
    rw [r35_4 ha, bd1_s, if_neg (nI_nlt (by omega) (by omega)), m_fills ha hw (by omega) hx, bd1_s]
    by_cases c : gpP (v 0) (cdV v 0) (v 4) x k = true
    · rw [ctP_1 c, leP_1 c] at hi
      rw [if_pos c, if_neg one_ne, nI_1, nI_1]
      by_cases c0 : ctP (gpP (v 0) (cdV v 0) (v 4) x) k = 0
      · rw [if_pos c0] at hi
        rw [if_pos (by rw [c0]; rfl)]
        exact hi
      · rw [if_neg c0] at hi
        rw [if_neg (fun z => c0 ((nI_eq0 (by omega)).mp z))]
        exact hi
    · rw [ctP_0 c, leP_0 c] at hi
      rw [if_neg c, if_pos rfl, nI_1]
      exact hi
theorem m_sure_L (ha : AR now v) (hw : WF v n B) {x : Nat} (hx : x < 2 ^ 31) : ∀ (m k fuel : Nat), k + m = v 4 + 1 → m < fuel → fX5_sure_L38 now (nI x) fuel (nI (alP (gpP (v 0) (cdV v 0) (v 4) x) (v 4) k)) (nI (anP (gpP (v 0) (cdV v 0) (v 4) x) k)) (nI (ctP (gpP (v 0) (cdV v 0) (v 4) x) k)) (nI k) = some (nI (alP (gpP (v 0) (cdV v 0) (v 4) x) (v 4) (v 4 + 1)), nI (anP (gpP (v 0) (cdV v 0) (v 4) x) (v 4 + 1)), nI (ctP (gpP (v 0) (cdV v 0) (v 4) x) (v 4 + 1))) := by
  have h4 := hw.2.2.2.1
  intro m
  induction m with
  | zero =>
    intro k fuel h1 h2
    obtain ⟨f, rfl⟩ : ∃ f, fuel = f + 1 := ⟨fuel - 1, by omega⟩
    have hk : k = v 4 + 1 := by omega
    subst hk
    show fX5_sure_B38 _ _ _ _ _ _ _ = _
    unfold fX5_sure_B38
    rw [r35_4 ha, bd1_s, if_pos (nI_lt (by omega) (by omega))]
  | succ m ih =>
    intro k fuel h1 h2
    obtain ⟨f, rfl⟩ : ∃ f, fuel = f + 1 := ⟨fuel - 1, by omega⟩
    have hi := ih (k + 1) f (by omega) (by omega)
    show fX5_sure_B38 _ _ _ _ _ _ _ = _
    unfold fX5_sure_B38 fX5_sure_j72
    rw [r35_4 ha, bd1_s, if_neg (nI_nlt (by omega) (by omega)), m_fills ha hw (by omega) hx, bd1_s]
    by_cases c : gpP (v 0) (cdV v 0) (v 4) x k = true
    · rw [ctP_1 c, alP_1 c, anP_1 c] at hi
      rw [if_pos c, if_neg one_ne, n_and, n_or, nI_1, nI_1]
      exact hi
    · rw [ctP_0 c, alP_0 c, anP_0 c] at hi
      rw [if_neg c, if_pos rfl, nI_1]
      exact hi
theorem in256_0 {x : Int32} (h : x < 0 ∨ nI 256 ≤ x) : fX5_in0 x 0 255 = some 0 := (inK0 (k := 255) (by decide) h).2
theorem in256_1 {x : Nat} (h : x < 256) : fX5_in0 (nI x) 0 255 = some 1 := (inK1 (k := 255) (by decide) (by omega)).2
theorem fl_gap (hs : SL size need lifted licked morning tally kinds places lengths downs covers v n) (hw : WF v n B) (ha : AR now v) (asked : Int32) (up lo : Int64) (c0 c1 c2 c3 x1 : Int32) : ∃ r a u l d0 d1 d2 d3, fX4_gap asked up lo size need lifted licked covers c0 c1 c2 c3 x1 = some (r, a, u, l, d0, d1, d2, d3) ∧ fX5_gap asked up lo now x1 = some (r, a, u, l) := by
  have h4 := hw.2.2.2.1
  rcases spl x1 (k := 256) (by decide) with ⟨x, hx, rfl⟩ | hx
  rotate_left
  · exact ⟨_, _, _, _, _, _, _, _, by unfold fX4_gap; rw [areL, in256_0 hx, bd1_s, if_pos rfl], by unfold fX5_gap; rw [in256_0 hx, bd1_s, if_pos rfl]⟩
  by_cases n0 : n = 0
  · exact ⟨_, _, _, _, _, _, _, _, by unfold fX4_gap; rw [areL, in256_1 hx, bd1_s, if_neg one_ne, if_pos (c_any0 hs n0)], by unfold fX5_gap; rw [in256_1 hx, bd1_s, if_neg one_ne, m_any0 ha hw n0, bd1_s, if_pos rfl]⟩
  have hc := ctP_le (gpP (v 0) (cdV v 0) (v 4) x) (v 4 + 1)
  have e5 : fX5_gap_L31 now (nI x) FU 0 (-9) 0 = _ := m_gap_L ha hw (x := x) (by omega) (v 4 + 1) 0 FU (by omega) (Nat.lt_of_lt_of_le (Nat.succ_lt_succ h4) (by decide))
  exact ⟨_, _, _, _, _, _, _, _, by unfold fX4_gap fX4_tell; rw [areL, in256_1 hx, bd1_s, if_neg one_ne, if_neg (c_any1 hs hw n0), c_fitGap hs hw (by omega) (by omega), bd4_s, tc_1 up lo (by omega), bd2_s, bd2_s], by unfold fX5_gap fX5_tells; rw [in256_1 hx, bd1_s, if_neg one_ne, m_any1 ha hw n0, bd1_s, if_neg one_ne, e5, bd2_s, bd2_s]⟩
theorem fl_sure (hs : SL size need lifted licked morning tally kinds places lengths downs covers v n) (hw : WF v n B) (ha : AR now v) (fi asked : Int32) (c0 c1 c2 c3 : Int32) {F4 F5 : Nat → Int32} (hF : ∀ j, j < 6 → F4 j = F5 j) (x1 : Int32) : ∃ r f a d0 d1 d2 d3 F4' F5', fX4_sure fi asked size need lifted licked covers c0 c1 c2 c3 F4 x1 = some (r, f, a, d0, d1, d2, d3, F4') ∧ fX5_sure fi asked now F5 x1 = some (r, f, a, F5') ∧ ∀ j, j < 6 → F4' j = F5' j := by
  have h4 := hw.2.2.2.1
  rcases spl x1 (k := 256) (by decide) with ⟨x, hx, rfl⟩ | hx
  rotate_left
  · exact ⟨_, _, _, _, _, _, _, _, _, by unfold fX4_sure; rw [areL, in256_0 hx, bd1_s, if_pos rfl], by unfold fX5_sure; rw [in256_0 hx, bd1_s, if_pos rfl], hF⟩
  by_cases n0 : n = 0
  · exact ⟨_, _, _, _, _, _, _, _, _, by unfold fX4_sure; rw [areL, in256_1 hx, bd1_s, if_neg one_ne, if_pos (c_any0 hs n0)], by unfold fX5_sure; rw [in256_1 hx, bd1_s, if_neg one_ne, m_any0 ha hw n0, bd1_s, if_pos rfl], hF⟩
  have hc := ctP_le (gpP (v 0) (cdV v 0) (v 4) x) (v 4 + 1)
  have e5 : fX5_sure_L38 now (nI x) FU (nI (v 4)) 0 0 0 = _ := m_sure_L ha hw (x := x) (by omega) (v 4 + 1) 0 FU (by omega) (Nat.lt_of_lt_of_le (Nat.succ_lt_succ h4) (by decide))
  have hal := alP_eq (P := gpP (v 0) (cdV v 0) (v 4) x) (a := 4294967295) (b := v 4) (k := v 4 + 1) (fun y hy z => ⟨and_m1 (by omega), by rw [Nat.and_comm]; exact (gpP_i.mp z).1⟩)
  by_cases c : ctP (gpP (v 0) (cdV v 0) (v 4) x) (v 4 + 1) = 0
  · have c' : nI (ctP (gpP (v 0) (cdV v 0) (v 4) x) (v 4 + 1)) = 0 := by rw [c]; rfl
    exact ⟨_, _, _, _, _, _, _, _, _, by unfold fX4_sure; rw [areL, in256_1 hx, bd1_s, if_neg one_ne, if_neg (c_any1 hs hw n0), c_fitGap hs hw (by omega) (by omega), bd4_s, if_pos c', fd4_4, bd3_s], by unfold fX5_sure; rw [in256_1 hx, bd1_s, if_neg one_ne, m_any1 ha hw n0, bd1_s, if_neg one_ne, r35_4 ha, bd1_s, e5, bd3_s, if_pos c', fd5_4, bd3_s], upd_eq6 hF (by decide)⟩
  · have c' : ¬ nI (ctP (gpP (v 0) (cdV v 0) (v 4) x) (v 4 + 1)) = 0 := fun z => c ((nI_eq0 (by omega)).mp z)
    have hal : alP (gpP (v 0) (cdV v 0) (v 4) x) 4294967295 (v 4 + 1) = alP (gpP (v 0) (cdV v 0) (v 4) x) (v 4) (v 4 + 1) := by
      rcases hal with ⟨z, -⟩ | ⟨-, z⟩
      · exact absurd z c
      · exact z
    exact ⟨_, _, _, _, _, _, _, _, _, by unfold fX4_sure; rw [areL, in256_1 hx, bd1_s, if_neg one_ne, if_neg (c_any1 hs hw n0), c_fitGap hs hw (by omega) (by omega), bd4_s, if_neg c', hal, hs.2.2.2.1], by unfold fX5_sure fX5_tells; rw [in256_1 hx, bd1_s, if_neg one_ne, m_any1 ha hw n0, bd1_s, if_neg one_ne, r35_4 ha, bd1_s, e5, bd3_s, if_neg c', bd1_s, bd2_s], hF⟩
end
theorem step_gap : Step_gap Rel := by
  intro c d h x1
  obtain ⟨⟨a1, a2, a3, a4, a5⟩, hB, hC, n, V, q, k, hD⟩ := h
  obtain ⟨hw, hs, ha, hk, -⟩ := hD.get
  obtain ⟨r, a, u, l, d0, d1, d2, d3, e4, e5⟩ := fl_gap hs hw ha (ms_asked d) (ms_upper d) (ms_lower d) (cs_count c) (cs_least c) (cs_inAll c) (cs_inSome c) x1
  rw [← a2, ← a3, ← a4] at e4
  exact go2 (map_some e4) (map_some e5) rfl ⟨⟨a1, rfl, rfl, rfl, a5⟩, hB, hC, n, V, q, k, hD⟩
theorem step_sure : Step_sure Rel := by
  intro c d h x1
  obtain ⟨⟨a1, a2, a3, a4, a5⟩, hB, hC, n, V, q, k, hD⟩ := h
  obtain ⟨hw, hs, ha, hk, -⟩ := hD.get
  obtain ⟨r, f, a, d0, d1, d2, d3, F4, F5, e4, e5, hF⟩ := fl_sure hs hw ha (ms_finding d) (ms_asked d) (cs_count c) (cs_least c) (cs_inAll c) (cs_inSome c) a5 x1
  rw [← a1, ← a2] at e4
  exact go2 (map_some e4) (map_some e5) rfl ⟨⟨rfl, rfl, a3, a4, hF⟩, hB, hC, n, V, q, k, hD⟩
