/-! ===== pure: bits of numbers ===== -/
theorem n_sl : ∀ n, n < 32 → ((nI n &&& 31).toBitVec.smod 32).toNat = n := by decide +kernel
theorem n_su : ∀ n, n < 32 → (((nI n).toUInt32 &&& Int32.toUInt32 31).toBitVec % 32).toNat = n := by decide +kernel
theorem n_and (a b : Nat) : nI a &&& nI b = nI (a &&& b) := by
  apply Int32.toBitVec_inj.1
  show BitVec.ofNat 32 a &&& BitVec.ofNat 32 b = BitVec.ofNat 32 (a &&& b)
  rw [BitVec.ofNat_and]
theorem n_or (a b : Nat) : nI a ||| nI b = nI (a ||| b) := by
  apply Int32.toBitVec_inj.1
  show BitVec.ofNat 32 a ||| BitVec.ofNat 32 b = BitVec.ofNat 32 (a ||| b)
  rw [BitVec.ofNat_or]
theorem n_xor (a b : Nat) : nI a ^^^ nI b = nI (a ^^^ b) := by
  apply Int32.toBitVec_inj.1
  show BitVec.ofNat 32 a ^^^ BitVec.ofNat 32 b = BitVec.ofNat 32 (a ^^^ b)
  rw [BitVec.ofNat_xor]
theorem n_m1 : (-1 : Int32) = nI 4294967295 := by decide +kernel
theorem n_shl {a k : Nat} (hk : k < 32) (h : a * 2 ^ k < 2 ^ 32) : nI a <<< (nI k &&& 31) = nI (a * 2 ^ k) := pk_shlN _ k (n_sl k hk) h
theorem n_shr {a k : Nat} (ha : a < 2 ^ 31) (hk : k < 32) : nI a >>> (nI k &&& 31) = nI (a / 2 ^ k) := pk_shrN ha _ k (n_sl k hk)
theorem n_ush {a k : Nat} (ha : a < 2 ^ 32) (hk : k < 32) : ushr (nI a) (nI k) = nI (a / 2 ^ k) := pk_ushrN ha _ k (n_su k hk)
theorem n_bit {a k : Nat} (ha : a < 2 ^ 31) (hk : k < 32) : (nI a >>> (nI k &&& 31)) &&& 1 = nI (a / 2 ^ k % 2) := by
  rw [n_shr ha hk, show (1 : Int32) = nI 1 from rfl, n_and, Nat.and_one_is_mod]
/-- how many of the sixteen bits -/
def pcN (x : Nat) : Nat := x % 2 + x / 2 % 2 + x / 4 % 2 + x / 8 % 2 + x / 16 % 2 + x / 32 % 2 + x / 64 % 2 + x / 128 % 2 + x / 256 % 2 + x / 512 % 2 + x / 1024 % 2 + x / 2048 % 2 + x / 4096 % 2 + x / 8192 % 2 + x / 16384 % 2 + x / 32768 % 2
/-- bitCount, as numbers -/
def bN1 (x : Nat) : Nat := x - (x / 2 &&& 1431655765)
def bN2 (x : Nat) : Nat := (x &&& 858993459) + (x / 4 &&& 858993459)
def bN3 (x : Nat) : Nat := (x + x / 16) &&& 252645135
def bN4 (x : Nat) : Nat := x + x / 256
def bN5 (x : Nat) : Nat := x + x / 65536
def bN (x : Nat) : Nat := bN5 (bN4 (bN3 (bN2 (bN1 x)))) &&& 63
theorem bN1_n {x : Nat} (h : x < 2 ^ 31) : bc1 (nI x) = nI (bN1 x) := by
  unfold bc1 bN1
  rw [show (1 : Int32) = nI 1 from rfl, n_ush (by omega) (by decide), show (1431655765 : Int32) = nI 1431655765 from rfl, n_and]
  refine nI_sub ?_
  have := Nat.and_le_left (n := x / 2 ^ 1) (m := 1431655765)
  omega
theorem bN2_n {x : Nat} (h : x < 2 ^ 31) : bc2 (nI x) = nI (bN2 x) := by
  unfold bc2 bN2
  rw [show (2 : Int32) = nI 2 from rfl, n_ush (by omega) (by decide), show (858993459 : Int32) = nI 858993459 from rfl, n_and, n_and, nI_add]
theorem bN3_n {x : Nat} (h : x < 2 ^ 31) : bc3 (nI x) = nI (bN3 x) := by
  unfold bc3 bN3
  rw [show (4 : Int32) = nI 4 from rfl, n_ush (by omega) (by decide), show (252645135 : Int32) = nI 252645135 from rfl, nI_add, n_and]
theorem bN4_n {x : Nat} (h : x < 2 ^ 31) : bc4 (nI x) = nI (bN4 x) := by
  unfold bc4 bN4
  rw [show (8 : Int32) = nI 8 from rfl, n_ush (by omega) (by decide), nI_add]
theorem bN5_n {x : Nat} (h : x < 2 ^ 31) : bc5 (nI x) = nI (bN5 x) := by
  unfold bc5 bN5
  rw [show (16 : Int32) = nI 16 from rfl, n_ush (by omega) (by decide), nI_add]
theorem bN_n {x : Nat} (h : x < 65536) : bitc (nI x) = nI (bN x) := by
  have h1 : bN1 x ≤ x := Nat.sub_le _ _
  have h2 : bN2 (bN1 x) ≤ 2 * x := by
    unfold bN2
    have a := Nat.and_le_left (n := bN1 x) (m := 858993459)
    have b := Nat.and_le_left (n := bN1 x / 4) (m := 858993459)
    omega
  have h3 : bN3 (bN2 (bN1 x)) ≤ 4 * x := by
    unfold bN3
    have a := Nat.and_le_left (n := bN2 (bN1 x) + bN2 (bN1 x) / 16) (m := 252645135)
    omega
  have h4 : bN4 (bN3 (bN2 (bN1 x))) ≤ 8 * x := by
    unfold bN4
    omega
  unfold bitc bN
  rw [bN1_n (by omega), bN2_n (by omega), bN3_n (by omega), bN4_n (by omega), bN5_n (by omega), show (63 : Int32) = nI 63 from rfl, n_and]
theorem bN_pc0 : ((List.range 64).all fun a => (List.range 256).all fun b => Nat.beq (bN (256 * (a + 0) + b)) (pcN (256 * (a + 0) + b))) = true := by decide +kernel
theorem bN_pc1 : ((List.range 64).all fun a => (List.range 256).all fun b => Nat.beq (bN (256 * (a + 64) + b)) (pcN (256 * (a + 64) + b))) = true := by decide +kernel
theorem bN_pc2 : ((List.range 64).all fun a => (List.range 256).all fun b => Nat.beq (bN (256 * (a + 128) + b)) (pcN (256 * (a + 128) + b))) = true := by decide +kernel
theorem bN_pc3 : ((List.range 64).all fun a => (List.range 256).all fun b => Nat.beq (bN (256 * (a + 192) + b)) (pcN (256 * (a + 192) + b))) = true := by decide +kernel
theorem bN_pc {x : Nat} (h : x < 65536) : bN x = pcN x := by
  have key : ∀ a b, a < 64 → b < 256 → ∀ o, ((List.range 64).all fun a => (List.range 256).all fun b => Nat.beq (bN (256 * (a + o) + b)) (pcN (256 * (a + o) + b))) = true → bN (256 * (a + o) + b) = pcN (256 * (a + o) + b) := by
    intro a b ha hb o ho
    have h1 := List.all_eq_true.mp ho a (List.mem_range.mpr ha)
    have h2 := List.all_eq_true.mp h1 b (List.mem_range.mpr hb)
    exact Nat.eq_of_beq_eq_true h2
  have hx : x = 256 * (x / 256) + x % 256 := by omega
  rcases (show x / 256 < 64 ∨ (64 ≤ x / 256 ∧ x / 256 < 128) ∨ (128 ≤ x / 256 ∧ x / 256 < 192) ∨ (192 ≤ x / 256 ∧ x / 256 < 256) by omega) with q | ⟨q1, q2⟩ | ⟨q1, q2⟩ | ⟨q1, q2⟩
  · have := key (x / 256) (x % 256) q (by omega) 0 bN_pc0
    rw [hx]; exact this
  · have := key (x / 256 - 64) (x % 256) (by omega) (by omega) 64 bN_pc1
    rw [show x / 256 - 64 + 64 = x / 256 by omega] at this
    rw [hx]; exact this
  · have := key (x / 256 - 128) (x % 256) (by omega) (by omega) 128 bN_pc2
    rw [show x / 256 - 128 + 128 = x / 256 by omega] at this
    rw [hx]; exact this
  · have := key (x / 256 - 192) (x % 256) (by omega) (by omega) 192 bN_pc3
    rw [show x / 256 - 192 + 192 = x / 256 by omega] at this
    rw [hx]; exact this
theorem bitc_n {x : Nat} (h : x < 65536) : bitc (nI x) = nI (pcN x) := by rw [bN_n h, bN_pc h]
theorem pcN_le (x : Nat) : pcN x ≤ 16 := by unfold pcN; omega
/-- sums and unions over the first numbers -/
def sumN (f : Nat → Nat) : Nat → Nat
  | 0 => 0
  | n + 1 => sumN f n + f n
def orN (f : Nat → Nat) : Nat → Nat
  | 0 => 0
  | n + 1 => orN f n ||| f n
theorem pcN_sum (x : Nat) : pcN x = sumN (fun j => x / 2 ^ j % 2) 16 := by
  simp only [sumN, pcN]
  simp
theorem sumN_le (f : Nat → Nat) (c : Nat) : ∀ n, (∀ j, j < n → f j ≤ c) → sumN f n ≤ c * n
  | 0, _ => Nat.le_refl _
  | n + 1, h => by
    have h1 := sumN_le f c n (fun j hj => h j (by omega))
    have h2 := h n (by omega)
    rw [sumN, Nat.mul_succ]
    omega
theorem orN_lt {f : Nat → Nat} {k : Nat} : ∀ {n : Nat}, (∀ j, j < n → f j < 2 ^ k) → orN f n < 2 ^ k
  | 0, _ => Nat.two_pow_pos k
  | n + 1, h => Nat.or_lt_two_pow (orN_lt (fun j hj => h j (by omega))) (h n (by omega))
theorem orN_cong {f g : Nat → Nat} : ∀ {n : Nat}, (∀ j, j < n → f j = g j) → orN f n = orN g n
  | 0, _ => rfl
  | n + 1, h => by rw [orN, orN, orN_cong (fun j hj => h j (by omega)), h n (by omega)]
theorem sumN_cong {f g : Nat → Nat} : ∀ {n : Nat}, (∀ j, j < n → f j = g j) → sumN f n = sumN g n
  | 0, _ => rfl
  | n + 1, h => by rw [sumN, sumN, sumN_cong (fun j hj => h j (by omega)), h n (by omega)]
theorem ones_L {x : Nat} (hx : x < 2 ^ 31) : ∀ (m k fuel : Nat), k + m = 16 → m < fuel → fX5_ones_L4 (nI x) fuel (nI (sumN (fun j => x / 2 ^ j % 2) k)) (nI k) = some (nI (sumN (fun j => x / 2 ^ j % 2) 16)) := by
  intro m
  induction m with
  | zero =>
    intro k fuel h1 h2
    obtain ⟨f, rfl⟩ : ∃ f, fuel = f + 1 := ⟨fuel - 1, by omega⟩
    have hk : k = 16 := by omega
    subst hk
    show fX5_ones_B4 _ _ _ _ = _
    unfold fX5_ones_B4
    exact if_pos (nI_le (Nat.le_refl 16) (by decide))
  | succ m ih =>
    intro k fuel h1 h2
    obtain ⟨f, rfl⟩ : ∃ f, fuel = f + 1 := ⟨fuel - 1, by omega⟩
    show fX5_ones_B4 _ _ _ _ = _
    unfold fX5_ones_B4
    have c1 : ¬ (16 : Int32) ≤ nI k := nI_ge (a := k) (b := 16) (by omega) (by decide)
    rw [if_neg c1, n_bit hx (by omega), nI_add, nI_1]
    exact ih (k + 1) f (by omega) (by omega)
theorem ones_n {x : Nat} (hx : x < 2 ^ 31) : fX5_ones (nI x) = some (nI (pcN x)) := by
  unfold fX5_ones
  have h := ones_L hx 16 0 FU rfl (by decide)
  rw [pcN_sum]
  have h : fX5_ones_L4 (nI x) FU 0 0 = _ := h
  rw [h]
  rfl
