/-! ===== pure: numbers, rows of ints, one thing behind another ===== -/
theorem bd0_s {γ : Type} (k : Unit → Option γ) : bd0 (some ()) k = k () := rfl
theorem st0_r {ρ : Type} (k : Unit → Option ρ) : st0 (some (.inr ())) k = k () := rfl
theorem st0_l { ρ : Type} (q : ρ) (k : Unit → Option ρ) : st0 (some (.inl q) : Option (ρ ⊕ Unit)) k = some q := rfl
theorem sl0_r {ρ ε : Type} (k : Unit → Option (ρ ⊕ ε)) : sl0 (some (.inr ())) k = k () := rfl
theorem sl0_l { ρ ε : Type} (q : ρ) (k : Unit → Option (ρ ⊕ ε)) : sl0 (some (.inl q) : Option (ρ ⊕ Unit)) k = some (.inl q) := rfl
theorem bd1_s {α0 γ : Type} (a0 : α0) (k : α0 → Option γ) : bd1 (some a0) k = k a0 := rfl
theorem st1_r {α0 ρ : Type} (a0 : α0) (k : α0 → Option ρ) : st1 (some (.inr a0)) k = k a0 := rfl
theorem st1_l {α0 ρ : Type} (q : ρ) (k : α0 → Option ρ) : st1 (some (.inl q) : Option (ρ ⊕ α0)) k = some q := rfl
theorem sl1_r {α0 ρ ε : Type} (a0 : α0) (k : α0 → Option (ρ ⊕ ε)) : sl1 (some (.inr a0)) k = k a0 := rfl
theorem sl1_l {α0 ρ ε : Type} (q : ρ) (k : α0 → Option (ρ ⊕ ε)) : sl1 (some (.inl q) : Option (ρ ⊕ α0)) k = some (.inl q) := rfl
theorem bd2_s {α0 α1 γ : Type} (a0 : α0) (a1 : α1) (k : α0 → α1 → Option γ) : bd2 (some (a0, a1)) k = k a0 a1 := rfl
theorem st2_r {α0 α1 ρ : Type} (a0 : α0) (a1 : α1) (k : α0 → α1 → Option ρ) : st2 (some (.inr (a0, a1))) k = k a0 a1 := rfl
theorem st2_l {α0 α1 ρ : Type} (q : ρ) (k : α0 → α1 → Option ρ) : st2 (some (.inl q) : Option (ρ ⊕ (α0 × α1))) k = some q := rfl
theorem sl2_r {α0 α1 ρ ε : Type} (a0 : α0) (a1 : α1) (k : α0 → α1 → Option (ρ ⊕ ε)) : sl2 (some (.inr (a0, a1))) k = k a0 a1 := rfl
theorem sl2_l {α0 α1 ρ ε : Type} (q : ρ) (k : α0 → α1 → Option (ρ ⊕ ε)) : sl2 (some (.inl q) : Option (ρ ⊕ (α0 × α1))) k = some (.inl q) := rfl
theorem bd3_s {α0 α1 α2 γ : Type} (a0 : α0) (a1 : α1) (a2 : α2) (k : α0 → α1 → α2 → Option γ) : bd3 (some (a0, a1, a2)) k = k a0 a1 a2 := rfl
theorem st3_r {α0 α1 α2 ρ : Type} (a0 : α0) (a1 : α1) (a2 : α2) (k : α0 → α1 → α2 → Option ρ) : st3 (some (.inr (a0, a1, a2))) k = k a0 a1 a2 := rfl
theorem st3_l {α0 α1 α2 ρ : Type} (q : ρ) (k : α0 → α1 → α2 → Option ρ) : st3 (some (.inl q) : Option (ρ ⊕ (α0 × α1 × α2))) k = some q := rfl
theorem sl3_r {α0 α1 α2 ρ ε : Type} (a0 : α0) (a1 : α1) (a2 : α2) (k : α0 → α1 → α2 → Option (ρ ⊕ ε)) : sl3 (some (.inr (a0, a1, a2))) k = k a0 a1 a2 := rfl
theorem sl3_l {α0 α1 α2 ρ ε : Type} (q : ρ) (k : α0 → α1 → α2 → Option (ρ ⊕ ε)) : sl3 (some (.inl q) : Option (ρ ⊕ (α0 × α1 × α2))) k = some (.inl q) := rfl
theorem bd4_s {α0 α1 α2 α3 γ : Type} (a0 : α0) (a1 : α1) (a2 : α2) (a3 : α3) (k : α0 → α1 → α2 → α3 → Option γ) : bd4 (some (a0, a1, a2, a3)) k = k a0 a1 a2 a3 := rfl
theorem st4_r {α0 α1 α2 α3 ρ : Type} (a0 : α0) (a1 : α1) (a2 : α2) (a3 : α3) (k : α0 → α1 → α2 → α3 → Option ρ) : st4 (some (.inr (a0, a1, a2, a3))) k = k a0 a1 a2 a3 := rfl
theorem st4_l {α0 α1 α2 α3 ρ : Type} (q : ρ) (k : α0 → α1 → α2 → α3 → Option ρ) : st4 (some (.inl q) : Option (ρ ⊕ (α0 × α1 × α2 × α3))) k = some q := rfl
theorem sl4_r {α0 α1 α2 α3 ρ ε : Type} (a0 : α0) (a1 : α1) (a2 : α2) (a3 : α3) (k : α0 → α1 → α2 → α3 → Option (ρ ⊕ ε)) : sl4 (some (.inr (a0, a1, a2, a3))) k = k a0 a1 a2 a3 := rfl
theorem sl4_l {α0 α1 α2 α3 ρ ε : Type} (q : ρ) (k : α0 → α1 → α2 → α3 → Option (ρ ⊕ ε)) : sl4 (some (.inl q) : Option (ρ ⊕ (α0 × α1 × α2 × α3))) k = some (.inl q) := rfl
theorem bd5_s {α0 α1 α2 α3 α4 γ : Type} (a0 : α0) (a1 : α1) (a2 : α2) (a3 : α3) (a4 : α4) (k : α0 → α1 → α2 → α3 → α4 → Option γ) : bd5 (some (a0, a1, a2, a3, a4)) k = k a0 a1 a2 a3 a4 := rfl
theorem st5_r {α0 α1 α2 α3 α4 ρ : Type} (a0 : α0) (a1 : α1) (a2 : α2) (a3 : α3) (a4 : α4) (k : α0 → α1 → α2 → α3 → α4 → Option ρ) : st5 (some (.inr (a0, a1, a2, a3, a4))) k = k a0 a1 a2 a3 a4 := rfl
theorem st5_l {α0 α1 α2 α3 α4 ρ : Type} (q : ρ) (k : α0 → α1 → α2 → α3 → α4 → Option ρ) : st5 (some (.inl q) : Option (ρ ⊕ (α0 × α1 × α2 × α3 × α4))) k = some q := rfl
theorem sl5_r {α0 α1 α2 α3 α4 ρ ε : Type} (a0 : α0) (a1 : α1) (a2 : α2) (a3 : α3) (a4 : α4) (k : α0 → α1 → α2 → α3 → α4 → Option (ρ ⊕ ε)) : sl5 (some (.inr (a0, a1, a2, a3, a4))) k = k a0 a1 a2 a3 a4 := rfl
theorem sl5_l {α0 α1 α2 α3 α4 ρ ε : Type} (q : ρ) (k : α0 → α1 → α2 → α3 → α4 → Option (ρ ⊕ ε)) : sl5 (some (.inl q) : Option (ρ ⊕ (α0 × α1 × α2 × α3 × α4))) k = some (.inl q) := rfl
theorem bd6_s {α0 α1 α2 α3 α4 α5 γ : Type} (a0 : α0) (a1 : α1) (a2 : α2) (a3 : α3) (a4 : α4) (a5 : α5) (k : α0 → α1 → α2 → α3 → α4 → α5 → Option γ) : bd6 (some (a0, a1, a2, a3, a4, a5)) k = k a0 a1 a2 a3 a4 a5 := rfl
theorem st6_r {α0 α1 α2 α3 α4 α5 ρ : Type} (a0 : α0) (a1 : α1) (a2 : α2) (a3 : α3) (a4 : α4) (a5 : α5) (k : α0 → α1 → α2 → α3 → α4 → α5 → Option ρ) : st6 (some (.inr (a0, a1, a2, a3, a4, a5))) k = k a0 a1 a2 a3 a4 a5 := rfl
theorem st6_l {α0 α1 α2 α3 α4 α5 ρ : Type} (q : ρ) (k : α0 → α1 → α2 → α3 → α4 → α5 → Option ρ) : st6 (some (.inl q) : Option (ρ ⊕ (α0 × α1 × α2 × α3 × α4 × α5))) k = some q := rfl
theorem sl6_r {α0 α1 α2 α3 α4 α5 ρ ε : Type} (a0 : α0) (a1 : α1) (a2 : α2) (a3 : α3) (a4 : α4) (a5 : α5) (k : α0 → α1 → α2 → α3 → α4 → α5 → Option (ρ ⊕ ε)) : sl6 (some (.inr (a0, a1, a2, a3, a4, a5))) k = k a0 a1 a2 a3 a4 a5 := rfl
theorem sl6_l {α0 α1 α2 α3 α4 α5 ρ ε : Type} (q : ρ) (k : α0 → α1 → α2 → α3 → α4 → α5 → Option (ρ ⊕ ε)) : sl6 (some (.inl q) : Option (ρ ⊕ (α0 × α1 × α2 × α3 × α4 × α5))) k = some (.inl q) := rfl
theorem bd7_s {α0 α1 α2 α3 α4 α5 α6 γ : Type} (a0 : α0) (a1 : α1) (a2 : α2) (a3 : α3) (a4 : α4) (a5 : α5) (a6 : α6) (k : α0 → α1 → α2 → α3 → α4 → α5 → α6 → Option γ) : bd7 (some (a0, a1, a2, a3, a4, a5, a6)) k = k a0 a1 a2 a3 a4 a5 a6 := rfl
theorem st7_r {α0 α1 α2 α3 α4 α5 α6 ρ : Type} (a0 : α0) (a1 : α1) (a2 : α2) (a3 : α3) (a4 : α4) (a5 : α5) (a6 : α6) (k : α0 → α1 → α2 → α3 → α4 → α5 → α6 → Option ρ) : st7 (some (.inr (a0, a1, a2, a3, a4, a5, a6))) k = k a0 a1 a2 a3 a4 a5 a6 := rfl
theorem st7_l {α0 α1 α2 α3 α4 α5 α6 ρ : Type} (q : ρ) (k : α0 → α1 → α2 → α3 → α4 → α5 → α6 → Option ρ) : st7 (some (.inl q) : Option (ρ ⊕ (α0 × α1 × α2 × α3 × α4 × α5 × α6))) k = some q := rfl
theorem sl7_r {α0 α1 α2 α3 α4 α5 α6 ρ ε : Type} (a0 : α0) (a1 : α1) (a2 : α2) (a3 : α3) (a4 : α4) (a5 : α5) (a6 : α6) (k : α0 → α1 → α2 → α3 → α4 → α5 → α6 → Option (ρ ⊕ ε)) : sl7 (some (.inr (a0, a1, a2, a3, a4, a5, a6))) k = k a0 a1 a2 a3 a4 a5 a6 := rfl
theorem sl7_l {α0 α1 α2 α3 α4 α5 α6 ρ ε : Type} (q : ρ) (k : α0 → α1 → α2 → α3 → α4 → α5 → α6 → Option (ρ ⊕ ε)) : sl7 (some (.inl q) : Option (ρ ⊕ (α0 × α1 × α2 × α3 × α4 × α5 × α6))) k = some (.inl q) := rfl
theorem bd8_s {α0 α1 α2 α3 α4 α5 α6 α7 γ : Type} (a0 : α0) (a1 : α1) (a2 : α2) (a3 : α3) (a4 : α4) (a5 : α5) (a6 : α6) (a7 : α7) (k : α0 → α1 → α2 → α3 → α4 → α5 → α6 → α7 → Option γ) : bd8 (some (a0, a1, a2, a3, a4, a5, a6, a7)) k = k a0 a1 a2 a3 a4 a5 a6 a7 := rfl
theorem st8_r {α0 α1 α2 α3 α4 α5 α6 α7 ρ : Type} (a0 : α0) (a1 : α1) (a2 : α2) (a3 : α3) (a4 : α4) (a5 : α5) (a6 : α6) (a7 : α7) (k : α0 → α1 → α2 → α3 → α4 → α5 → α6 → α7 → Option ρ) : st8 (some (.inr (a0, a1, a2, a3, a4, a5, a6, a7))) k = k a0 a1 a2 a3 a4 a5 a6 a7 := rfl
theorem st8_l {α0 α1 α2 α3 α4 α5 α6 α7 ρ : Type} (q : ρ) (k : α0 → α1 → α2 → α3 → α4 → α5 → α6 → α7 → Option ρ) : st8 (some (.inl q) : Option (ρ ⊕ (α0 × α1 × α2 × α3 × α4 × α5 × α6 × α7))) k = some q := rfl
theorem sl8_r {α0 α1 α2 α3 α4 α5 α6 α7 ρ ε : Type} (a0 : α0) (a1 : α1) (a2 : α2) (a3 : α3) (a4 : α4) (a5 : α5) (a6 : α6) (a7 : α7) (k : α0 → α1 → α2 → α3 → α4 → α5 → α6 → α7 → Option (ρ ⊕ ε)) : sl8 (some (.inr (a0, a1, a2, a3, a4, a5, a6, a7))) k = k a0 a1 a2 a3 a4 a5 a6 a7 := rfl
theorem sl8_l {α0 α1 α2 α3 α4 α5 α6 α7 ρ ε : Type} (q : ρ) (k : α0 → α1 → α2 → α3 → α4 → α5 → α6 → α7 → Option (ρ ⊕ ε)) : sl8 (some (.inl q) : Option (ρ ⊕ (α0 × α1 × α2 × α3 × α4 × α5 × α6 × α7))) k = some (.inl q) := rfl
theorem bd9_s {α0 α1 α2 α3 α4 α5 α6 α7 α8 γ : Type} (a0 : α0) (a1 : α1) (a2 : α2) (a3 : α3) (a4 : α4) (a5 : α5) (a6 : α6) (a7 : α7) (a8 : α8) (k : α0 → α1 → α2 → α3 → α4 → α5 → α6 → α7 → α8 → Option γ) : bd9 (some (a0, a1, a2, a3, a4, a5, a6, a7, a8)) k = k a0 a1 a2 a3 a4 a5 a6 a7 a8 := rfl
theorem bd10_s {α0 α1 α2 α3 α4 α5 α6 α7 α8 α9 γ : Type} (a0 : α0) (a1 : α1) (a2 : α2) (a3 : α3) (a4 : α4) (a5 : α5) (a6 : α6) (a7 : α7) (a8 : α8) (a9 : α9) (k : α0 → α1 → α2 → α3 → α4 → α5 → α6 → α7 → α8 → α9 → Option γ) : bd10 (some (a0, a1, a2, a3, a4, a5, a6, a7, a8, a9)) k = k a0 a1 a2 a3 a4 a5 a6 a7 a8 a9 := rfl
theorem bd11_s {α0 α1 α2 α3 α4 α5 α6 α7 α8 α9 α10 γ : Type} (a0 : α0) (a1 : α1) (a2 : α2) (a3 : α3) (a4 : α4) (a5 : α5) (a6 : α6) (a7 : α7) (a8 : α8) (a9 : α9) (a10 : α10) (k : α0 → α1 → α2 → α3 → α4 → α5 → α6 → α7 → α8 → α9 → α10 → Option γ) : bd11 (some (a0, a1, a2, a3, a4, a5, a6, a7, a8, a9, a10)) k = k a0 a1 a2 a3 a4 a5 a6 a7 a8 a9 a10 := rfl
theorem bd12_s {α0 α1 α2 α3 α4 α5 α6 α7 α8 α9 α10 α11 γ : Type} (a0 : α0) (a1 : α1) (a2 : α2) (a3 : α3) (a4 : α4) (a5 : α5) (a6 : α6) (a7 : α7) (a8 : α8) (a9 : α9) (a10 : α10) (a11 : α11) (k : α0 → α1 → α2 → α3 → α4 → α5 → α6 → α7 → α8 → α9 → α10 → α11 → Option γ) : bd12 (some (a0, a1, a2, a3, a4, a5, a6, a7, a8, a9, a10, a11)) k = k a0 a1 a2 a3 a4 a5 a6 a7 a8 a9 a10 a11 := rfl
theorem bd13_s {α0 α1 α2 α3 α4 α5 α6 α7 α8 α9 α10 α11 α12 γ : Type} (a0 : α0) (a1 : α1) (a2 : α2) (a3 : α3) (a4 : α4) (a5 : α5) (a6 : α6) (a7 : α7) (a8 : α8) (a9 : α9) (a10 : α10) (a11 : α11) (a12 : α12) (k : α0 → α1 → α2 → α3 → α4 → α5 → α6 → α7 → α8 → α9 → α10 → α11 → α12 → Option γ) : bd13 (some (a0, a1, a2, a3, a4, a5, a6, a7, a8, a9, a10, a11, a12)) k = k a0 a1 a2 a3 a4 a5 a6 a7 a8 a9 a10 a11 a12 := rfl
theorem bd14_s {α0 α1 α2 α3 α4 α5 α6 α7 α8 α9 α10 α11 α12 α13 γ : Type} (a0 : α0) (a1 : α1) (a2 : α2) (a3 : α3) (a4 : α4) (a5 : α5) (a6 : α6) (a7 : α7) (a8 : α8) (a9 : α9) (a10 : α10) (a11 : α11) (a12 : α12) (a13 : α13) (k : α0 → α1 → α2 → α3 → α4 → α5 → α6 → α7 → α8 → α9 → α10 → α11 → α12 → α13 → Option γ) : bd14 (some (a0, a1, a2, a3, a4, a5, a6, a7, a8, a9, a10, a11, a12, a13)) k = k a0 a1 a2 a3 a4 a5 a6 a7 a8 a9 a10 a11 a12 a13 := rfl
theorem nI_mul (a b : Nat) : nI a * nI b = nI (a * b) := (Int32.ofNat_mul a b).symm
theorem nI_sub {a b : Nat} (h : b ≤ a) : nI a - nI b = nI (a - b) := by
  have : nI a = nI (a - b) + nI b := by rw [nI_add, Nat.sub_add_cancel h]
  rw [this, Int32.add_sub_cancel]
theorem ald_nI {n j : Nat} {f : Nat → Int32} (h : j < n) (hn : n < 2 ^ 31) : ald n f (nI j) = some (f j) := by
  unfold ald
  rw [if_neg (nI_in h hn), nI_clamp (by omega)]
theorem ast_nI {n j : Nat} {f : Nat → Int32} {x : Int32} (h : j < n) (hn : n < 2 ^ 31) : ast n f (nI j) x = some (upd f j x) := by
  unfold ast
  rw [if_neg (nI_in h hn), nI_clamp (by omega)]
/-- an int is a number below k, or not in its range -/
theorem spl (x : Int32) {k : Nat} (hk : k < 2 ^ 31) : (∃ j, j < k ∧ x = nI j) ∨ (x < 0 ∨ nI k ≤ x) := by
  by_cases h : x < 0
  · exact Or.inr (Or.inl h)
  · obtain ⟨j, hj, rfl⟩ := nI_of h
    by_cases h2 : j < k
    · exact Or.inl ⟨j, h2, rfl⟩
    · exact Or.inr (Or.inr (nI_le (by omega) hj))
theorem in0_eq (x lo hi : Int32) : fX5_in0 x lo hi = some (if x < lo then 0 else if hi < x then 0 else 1) := by
  unfold fX5_in0
  split <;> try rfl
  split <;> rfl
theorem upd_s (f : Nat → Int32) (k : Nat) (x : Int32) : upd f k x k = x := by simp [upd]
theorem upd_n (f : Nat → Int32) {k j : Nat} (x : Int32) (h : j ≠ k) : upd f k x j = f j := by simp [upd, h]

