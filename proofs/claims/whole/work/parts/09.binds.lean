/-! ===== printed by wip/whole/gen.py: one thing behind another ===== -/
def FU : Nat := 100000
def bd0 {γ : Type} (o : Option Unit) (k : Unit → Option γ) : Option γ := match o with
  | none => none
  | some () => k ()
theorem bd0_some {γ : Type} {o : Option Unit} {k : Unit → Option γ} {c : γ} (h : bd0 o k = some c) : o = some () ∧ k () = some c := by
  cases o with
  | none => cases h
  | some q => exact ⟨rfl, h⟩
def st0 {ρ : Type} (o : Option (ρ ⊕ Unit)) (k : Unit → Option ρ) : Option ρ := match o with
  | none => none
  | some (.inl q) => some q
  | some (.inr ()) => k ()
theorem st0_some {ρ : Type} {o : Option (ρ ⊕ Unit)} {k : Unit → Option ρ} {c : ρ} (h : st0 o k = some c) : o = some (.inl c) ∨ o = some (.inr ()) ∧ k () = some c := by
  cases o with
  | none => cases h
  | some q =>
    cases q with
    | inl q => exact Or.inl (congrArg (fun z => some (Sum.inl z)) (Option.some.inj h))
    | inr q => exact Or.inr ⟨rfl, h⟩
def sl0 {ρ ε : Type} (o : Option (ρ ⊕ Unit)) (k : Unit → Option (ρ ⊕ ε)) : Option (ρ ⊕ ε) := match o with
  | none => none
  | some (.inl q) => some (.inl q)
  | some (.inr ()) => k ()
theorem sl0_some {ρ ε : Type} {o : Option (ρ ⊕ Unit)} {k : Unit → Option (ρ ⊕ ε)} {c : ρ ⊕ ε} (h : sl0 o k = some c) : (∃ q, o = some (.inl q) ∧ .inl q = c) ∨ o = some (.inr ()) ∧ k () = some c := by
  cases o with
  | none => cases h
  | some q =>
    cases q with
    | inl q => exact Or.inl ⟨q, rfl, Option.some.inj h⟩
    | inr q => exact Or.inr ⟨rfl, h⟩
def bd1 {α0 γ : Type} (o : Option α0) (k : α0 → Option γ) : Option γ := match o with
  | none => none
  | some a0 => k a0
theorem bd1_some {α0 γ : Type} {o : Option α0} {k : α0 → Option γ} {c : γ} (h : bd1 o k = some c) : ∃ a0, o = some a0 ∧ k a0 = some c := by
  cases o with
  | none => cases h
  | some q => exact ⟨_, rfl, h⟩
def st1 {α0 ρ : Type} (o : Option (ρ ⊕ α0)) (k : α0 → Option ρ) : Option ρ := match o with
  | none => none
  | some (.inl q) => some q
  | some (.inr a0) => k a0
theorem st1_some {α0 ρ : Type} {o : Option (ρ ⊕ α0)} {k : α0 → Option ρ} {c : ρ} (h : st1 o k = some c) : o = some (.inl c) ∨ ∃ a0, o = some (.inr a0) ∧ k a0 = some c := by
  cases o with
  | none => cases h
  | some q =>
    cases q with
    | inl q => exact Or.inl (congrArg (fun z => some (Sum.inl z)) (Option.some.inj h))
    | inr q => exact Or.inr ⟨_, rfl, h⟩
def sl1 {α0 ρ ε : Type} (o : Option (ρ ⊕ α0)) (k : α0 → Option (ρ ⊕ ε)) : Option (ρ ⊕ ε) := match o with
  | none => none
  | some (.inl q) => some (.inl q)
  | some (.inr a0) => k a0
theorem sl1_some {α0 ρ ε : Type} {o : Option (ρ ⊕ α0)} {k : α0 → Option (ρ ⊕ ε)} {c : ρ ⊕ ε} (h : sl1 o k = some c) : (∃ q, o = some (.inl q) ∧ .inl q = c) ∨ ∃ a0, o = some (.inr a0) ∧ k a0 = some c := by
  cases o with
  | none => cases h
  | some q =>
    cases q with
    | inl q => exact Or.inl ⟨q, rfl, Option.some.inj h⟩
    | inr q => exact Or.inr ⟨_, rfl, h⟩
def bd2 {α0 α1 γ : Type} (o : Option (α0 × α1)) (k : α0 → α1 → Option γ) : Option γ := match o with
  | none => none
  | some (a0, a1) => k a0 a1
theorem bd2_some {α0 α1 γ : Type} {o : Option (α0 × α1)} {k : α0 → α1 → Option γ} {c : γ} (h : bd2 o k = some c) : ∃ a0 a1, o = some (a0, a1) ∧ k a0 a1 = some c := by
  cases o with
  | none => cases h
  | some q => obtain ⟨a0, a1⟩ := q; exact ⟨_, _, rfl, h⟩
def st2 {α0 α1 ρ : Type} (o : Option (ρ ⊕ (α0 × α1))) (k : α0 → α1 → Option ρ) : Option ρ := match o with
  | none => none
  | some (.inl q) => some q
  | some (.inr (a0, a1)) => k a0 a1
theorem st2_some {α0 α1 ρ : Type} {o : Option (ρ ⊕ (α0 × α1))} {k : α0 → α1 → Option ρ} {c : ρ} (h : st2 o k = some c) : o = some (.inl c) ∨ ∃ a0 a1, o = some (.inr (a0, a1)) ∧ k a0 a1 = some c := by
  cases o with
  | none => cases h
  | some q =>
    cases q with
    | inl q => exact Or.inl (congrArg (fun z => some (Sum.inl z)) (Option.some.inj h))
    | inr q => obtain ⟨a0, a1⟩ := q; exact Or.inr ⟨_, _, rfl, h⟩
def sl2 {α0 α1 ρ ε : Type} (o : Option (ρ ⊕ (α0 × α1))) (k : α0 → α1 → Option (ρ ⊕ ε)) : Option (ρ ⊕ ε) := match o with
  | none => none
  | some (.inl q) => some (.inl q)
  | some (.inr (a0, a1)) => k a0 a1
theorem sl2_some {α0 α1 ρ ε : Type} {o : Option (ρ ⊕ (α0 × α1))} {k : α0 → α1 → Option (ρ ⊕ ε)} {c : ρ ⊕ ε} (h : sl2 o k = some c) : (∃ q, o = some (.inl q) ∧ .inl q = c) ∨ ∃ a0 a1, o = some (.inr (a0, a1)) ∧ k a0 a1 = some c := by
  cases o with
  | none => cases h
  | some q =>
    cases q with
    | inl q => exact Or.inl ⟨q, rfl, Option.some.inj h⟩
    | inr q => obtain ⟨a0, a1⟩ := q; exact Or.inr ⟨_, _, rfl, h⟩
def bd3 {α0 α1 α2 γ : Type} (o : Option (α0 × α1 × α2)) (k : α0 → α1 → α2 → Option γ) : Option γ := match o with
  | none => none
  | some (a0, a1, a2) => k a0 a1 a2
theorem bd3_some {α0 α1 α2 γ : Type} {o : Option (α0 × α1 × α2)} {k : α0 → α1 → α2 → Option γ} {c : γ} (h : bd3 o k = some c) : ∃ a0 a1 a2, o = some (a0, a1, a2) ∧ k a0 a1 a2 = some c := by
  cases o with
  | none => cases h
  | some q => obtain ⟨a0, a1, a2⟩ := q; exact ⟨_, _, _, rfl, h⟩
def st3 {α0 α1 α2 ρ : Type} (o : Option (ρ ⊕ (α0 × α1 × α2))) (k : α0 → α1 → α2 → Option ρ) : Option ρ := match o with
  | none => none
  | some (.inl q) => some q
  | some (.inr (a0, a1, a2)) => k a0 a1 a2
theorem st3_some {α0 α1 α2 ρ : Type} {o : Option (ρ ⊕ (α0 × α1 × α2))} {k : α0 → α1 → α2 → Option ρ} {c : ρ} (h : st3 o k = some c) : o = some (.inl c) ∨ ∃ a0 a1 a2, o = some (.inr (a0, a1, a2)) ∧ k a0 a1 a2 = some c := by
  cases o with
  | none => cases h
  | some q =>
    cases q with
    | inl q => exact Or.inl (congrArg (fun z => some (Sum.inl z)) (Option.some.inj h))
    | inr q => obtain ⟨a0, a1, a2⟩ := q; exact Or.inr ⟨_, _, _, rfl, h⟩
def sl3 {α0 α1 α2 ρ ε : Type} (o : Option (ρ ⊕ (α0 × α1 × α2))) (k : α0 → α1 → α2 → Option (ρ ⊕ ε)) : Option (ρ ⊕ ε) := match o with
  | none => none
  | some (.inl q) => some (.inl q)
  | some (.inr (a0, a1, a2)) => k a0 a1 a2
theorem sl3_some {α0 α1 α2 ρ ε : Type} {o : Option (ρ ⊕ (α0 × α1 × α2))} {k : α0 → α1 → α2 → Option (ρ ⊕ ε)} {c : ρ ⊕ ε} (h : sl3 o k = some c) : (∃ q, o = some (.inl q) ∧ .inl q = c) ∨ ∃ a0 a1 a2, o = some (.inr (a0, a1, a2)) ∧ k a0 a1 a2 = some c := by
  cases o with
  | none => cases h
  | some q =>
    cases q with
    | inl q => exact Or.inl ⟨q, rfl, Option.some.inj h⟩
    | inr q => obtain ⟨a0, a1, a2⟩ := q; exact Or.inr ⟨_, _, _, rfl, h⟩
def bd4 {α0 α1 α2 α3 γ : Type} (o : Option (α0 × α1 × α2 × α3)) (k : α0 → α1 → α2 → α3 → Option γ) : Option γ := match o with
  | none => none
  | some (a0, a1, a2, a3) => k a0 a1 a2 a3
theorem bd4_some {α0 α1 α2 α3 γ : Type} {o : Option (α0 × α1 × α2 × α3)} {k : α0 → α1 → α2 → α3 → Option γ} {c : γ} (h : bd4 o k = some c) : ∃ a0 a1 a2 a3, o = some (a0, a1, a2, a3) ∧ k a0 a1 a2 a3 = some c := by
  cases o with
  | none => cases h
  | some q => obtain ⟨a0, a1, a2, a3⟩ := q; exact ⟨_, _, _, _, rfl, h⟩
def st4 {α0 α1 α2 α3 ρ : Type} (o : Option (ρ ⊕ (α0 × α1 × α2 × α3))) (k : α0 → α1 → α2 → α3 → Option ρ) : Option ρ := match o with
  | none => none
  | some (.inl q) => some q
  | some (.inr (a0, a1, a2, a3)) => k a0 a1 a2 a3
theorem st4_some {α0 α1 α2 α3 ρ : Type} {o : Option (ρ ⊕ (α0 × α1 × α2 × α3))} {k : α0 → α1 → α2 → α3 → Option ρ} {c : ρ} (h : st4 o k = some c) : o = some (.inl c) ∨ ∃ a0 a1 a2 a3, o = some (.inr (a0, a1, a2, a3)) ∧ k a0 a1 a2 a3 = some c := by
  cases o with
  | none => cases h
  | some q =>
    cases q with
    | inl q => exact Or.inl (congrArg (fun z => some (Sum.inl z)) (Option.some.inj h))
    | inr q => obtain ⟨a0, a1, a2, a3⟩ := q; exact Or.inr ⟨_, _, _, _, rfl, h⟩
def sl4 {α0 α1 α2 α3 ρ ε : Type} (o : Option (ρ ⊕ (α0 × α1 × α2 × α3))) (k : α0 → α1 → α2 → α3 → Option (ρ ⊕ ε)) : Option (ρ ⊕ ε) := match o with
  | none => none
  | some (.inl q) => some (.inl q)
  | some (.inr (a0, a1, a2, a3)) => k a0 a1 a2 a3
theorem sl4_some {α0 α1 α2 α3 ρ ε : Type} {o : Option (ρ ⊕ (α0 × α1 × α2 × α3))} {k : α0 → α1 → α2 → α3 → Option (ρ ⊕ ε)} {c : ρ ⊕ ε} (h : sl4 o k = some c) : (∃ q, o = some (.inl q) ∧ .inl q = c) ∨ ∃ a0 a1 a2 a3, o = some (.inr (a0, a1, a2, a3)) ∧ k a0 a1 a2 a3 = some c := by
  cases o with
  | none => cases h
  | some q =>
    cases q with
    | inl q => exact Or.inl ⟨q, rfl, Option.some.inj h⟩
    | inr q => obtain ⟨a0, a1, a2, a3⟩ := q; exact Or.inr ⟨_, _, _, _, rfl, h⟩
def bd5 {α0 α1 α2 α3 α4 γ : Type} (o : Option (α0 × α1 × α2 × α3 × α4)) (k : α0 → α1 → α2 → α3 → α4 → Option γ) : Option γ := match o with
  | none => none
  | some (a0, a1, a2, a3, a4) => k a0 a1 a2 a3 a4
theorem bd5_some {α0 α1 α2 α3 α4 γ : Type} {o : Option (α0 × α1 × α2 × α3 × α4)} {k : α0 → α1 → α2 → α3 → α4 → Option γ} {c : γ} (h : bd5 o k = some c) : ∃ a0 a1 a2 a3 a4, o = some (a0, a1, a2, a3, a4) ∧ k a0 a1 a2 a3 a4 = some c := by
  cases o with
  | none => cases h
  | some q => obtain ⟨a0, a1, a2, a3, a4⟩ := q; exact ⟨_, _, _, _, _, rfl, h⟩
def st5 {α0 α1 α2 α3 α4 ρ : Type} (o : Option (ρ ⊕ (α0 × α1 × α2 × α3 × α4))) (k : α0 → α1 → α2 → α3 → α4 → Option ρ) : Option ρ := match o with
  | none => none
  | some (.inl q) => some q
  | some (.inr (a0, a1, a2, a3, a4)) => k a0 a1 a2 a3 a4
theorem st5_some {α0 α1 α2 α3 α4 ρ : Type} {o : Option (ρ ⊕ (α0 × α1 × α2 × α3 × α4))} {k : α0 → α1 → α2 → α3 → α4 → Option ρ} {c : ρ} (h : st5 o k = some c) : o = some (.inl c) ∨ ∃ a0 a1 a2 a3 a4, o = some (.inr (a0, a1, a2, a3, a4)) ∧ k a0 a1 a2 a3 a4 = some c := by
  cases o with
  | none => cases h
  | some q =>
    cases q with
    | inl q => exact Or.inl (congrArg (fun z => some (Sum.inl z)) (Option.some.inj h))
    | inr q => obtain ⟨a0, a1, a2, a3, a4⟩ := q; exact Or.inr ⟨_, _, _, _, _, rfl, h⟩
def sl5 {α0 α1 α2 α3 α4 ρ ε : Type} (o : Option (ρ ⊕ (α0 × α1 × α2 × α3 × α4))) (k : α0 → α1 → α2 → α3 → α4 → Option (ρ ⊕ ε)) : Option (ρ ⊕ ε) := match o with
  | none => none
  | some (.inl q) => some (.inl q)
  | some (.inr (a0, a1, a2, a3, a4)) => k a0 a1 a2 a3 a4
theorem sl5_some {α0 α1 α2 α3 α4 ρ ε : Type} {o : Option (ρ ⊕ (α0 × α1 × α2 × α3 × α4))} {k : α0 → α1 → α2 → α3 → α4 → Option (ρ ⊕ ε)} {c : ρ ⊕ ε} (h : sl5 o k = some c) : (∃ q, o = some (.inl q) ∧ .inl q = c) ∨ ∃ a0 a1 a2 a3 a4, o = some (.inr (a0, a1, a2, a3, a4)) ∧ k a0 a1 a2 a3 a4 = some c := by
  cases o with
  | none => cases h
  | some q =>
    cases q with
    | inl q => exact Or.inl ⟨q, rfl, Option.some.inj h⟩
    | inr q => obtain ⟨a0, a1, a2, a3, a4⟩ := q; exact Or.inr ⟨_, _, _, _, _, rfl, h⟩
def bd6 {α0 α1 α2 α3 α4 α5 γ : Type} (o : Option (α0 × α1 × α2 × α3 × α4 × α5)) (k : α0 → α1 → α2 → α3 → α4 → α5 → Option γ) : Option γ := match o with
  | none => none
  | some (a0, a1, a2, a3, a4, a5) => k a0 a1 a2 a3 a4 a5
theorem bd6_some {α0 α1 α2 α3 α4 α5 γ : Type} {o : Option (α0 × α1 × α2 × α3 × α4 × α5)} {k : α0 → α1 → α2 → α3 → α4 → α5 → Option γ} {c : γ} (h : bd6 o k = some c) : ∃ a0 a1 a2 a3 a4 a5, o = some (a0, a1, a2, a3, a4, a5) ∧ k a0 a1 a2 a3 a4 a5 = some c := by
  cases o with
  | none => cases h
  | some q => obtain ⟨a0, a1, a2, a3, a4, a5⟩ := q; exact ⟨_, _, _, _, _, _, rfl, h⟩
def st6 {α0 α1 α2 α3 α4 α5 ρ : Type} (o : Option (ρ ⊕ (α0 × α1 × α2 × α3 × α4 × α5))) (k : α0 → α1 → α2 → α3 → α4 → α5 → Option ρ) : Option ρ := match o with
  | none => none
  | some (.inl q) => some q
  | some (.inr (a0, a1, a2, a3, a4, a5)) => k a0 a1 a2 a3 a4 a5
theorem st6_some {α0 α1 α2 α3 α4 α5 ρ : Type} {o : Option (ρ ⊕ (α0 × α1 × α2 × α3 × α4 × α5))} {k : α0 → α1 → α2 → α3 → α4 → α5 → Option ρ} {c : ρ} (h : st6 o k = some c) : o = some (.inl c) ∨ ∃ a0 a1 a2 a3 a4 a5, o = some (.inr (a0, a1, a2, a3, a4, a5)) ∧ k a0 a1 a2 a3 a4 a5 = some c := by
  cases o with
  | none => cases h
  | some q =>
    cases q with
    | inl q => exact Or.inl (congrArg (fun z => some (Sum.inl z)) (Option.some.inj h))
    | inr q => obtain ⟨a0, a1, a2, a3, a4, a5⟩ := q; exact Or.inr ⟨_, _, _, _, _, _, rfl, h⟩
def sl6 {α0 α1 α2 α3 α4 α5 ρ ε : Type} (o : Option (ρ ⊕ (α0 × α1 × α2 × α3 × α4 × α5))) (k : α0 → α1 → α2 → α3 → α4 → α5 → Option (ρ ⊕ ε)) : Option (ρ ⊕ ε) := match o with
  | none => none
  | some (.inl q) => some (.inl q)
  | some (.inr (a0, a1, a2, a3, a4, a5)) => k a0 a1 a2 a3 a4 a5
theorem sl6_some {α0 α1 α2 α3 α4 α5 ρ ε : Type} {o : Option (ρ ⊕ (α0 × α1 × α2 × α3 × α4 × α5))} {k : α0 → α1 → α2 → α3 → α4 → α5 → Option (ρ ⊕ ε)} {c : ρ ⊕ ε} (h : sl6 o k = some c) : (∃ q, o = some (.inl q) ∧ .inl q = c) ∨ ∃ a0 a1 a2 a3 a4 a5, o = some (.inr (a0, a1, a2, a3, a4, a5)) ∧ k a0 a1 a2 a3 a4 a5 = some c := by
  cases o with
  | none => cases h
  | some q =>
    cases q with
    | inl q => exact Or.inl ⟨q, rfl, Option.some.inj h⟩
    | inr q => obtain ⟨a0, a1, a2, a3, a4, a5⟩ := q; exact Or.inr ⟨_, _, _, _, _, _, rfl, h⟩
def bd7 {α0 α1 α2 α3 α4 α5 α6 γ : Type} (o : Option (α0 × α1 × α2 × α3 × α4 × α5 × α6)) (k : α0 → α1 → α2 → α3 → α4 → α5 → α6 → Option γ) : Option γ := match o with
  | none => none
  | some (a0, a1, a2, a3, a4, a5, a6) => k a0 a1 a2 a3 a4 a5 a6
theorem bd7_some {α0 α1 α2 α3 α4 α5 α6 γ : Type} {o : Option (α0 × α1 × α2 × α3 × α4 × α5 × α6)} {k : α0 → α1 → α2 → α3 → α4 → α5 → α6 → Option γ} {c : γ} (h : bd7 o k = some c) : ∃ a0 a1 a2 a3 a4 a5 a6, o = some (a0, a1, a2, a3, a4, a5, a6) ∧ k a0 a1 a2 a3 a4 a5 a6 = some c := by
  cases o with
  | none => cases h
  | some q => obtain ⟨a0, a1, a2, a3, a4, a5, a6⟩ := q; exact ⟨_, _, _, _, _, _, _, rfl, h⟩
def st7 {α0 α1 α2 α3 α4 α5 α6 ρ : Type} (o : Option (ρ ⊕ (α0 × α1 × α2 × α3 × α4 × α5 × α6))) (k : α0 → α1 → α2 → α3 → α4 → α5 → α6 → Option ρ) : Option ρ := match o with
  | none => none
  | some (.inl q) => some q
  | some (.inr (a0, a1, a2, a3, a4, a5, a6)) => k a0 a1 a2 a3 a4 a5 a6
theorem st7_some {α0 α1 α2 α3 α4 α5 α6 ρ : Type} {o : Option (ρ ⊕ (α0 × α1 × α2 × α3 × α4 × α5 × α6))} {k : α0 → α1 → α2 → α3 → α4 → α5 → α6 → Option ρ} {c : ρ} (h : st7 o k = some c) : o = some (.inl c) ∨ ∃ a0 a1 a2 a3 a4 a5 a6, o = some (.inr (a0, a1, a2, a3, a4, a5, a6)) ∧ k a0 a1 a2 a3 a4 a5 a6 = some c := by
  cases o with
  | none => cases h
  | some q =>
    cases q with
    | inl q => exact Or.inl (congrArg (fun z => some (Sum.inl z)) (Option.some.inj h))
    | inr q => obtain ⟨a0, a1, a2, a3, a4, a5, a6⟩ := q; exact Or.inr ⟨_, _, _, _, _, _, _, rfl, h⟩
def sl7 {α0 α1 α2 α3 α4 α5 α6 ρ ε : Type} (o : Option (ρ ⊕ (α0 × α1 × α2 × α3 × α4 × α5 × α6))) (k : α0 → α1 → α2 → α3 → α4 → α5 → α6 → Option (ρ ⊕ ε)) : Option (ρ ⊕ ε) := match o with
  | none => none
  | some (.inl q) => some (.inl q)
  | some (.inr (a0, a1, a2, a3, a4, a5, a6)) => k a0 a1 a2 a3 a4 a5 a6
theorem sl7_some {α0 α1 α2 α3 α4 α5 α6 ρ ε : Type} {o : Option (ρ ⊕ (α0 × α1 × α2 × α3 × α4 × α5 × α6))} {k : α0 → α1 → α2 → α3 → α4 → α5 → α6 → Option (ρ ⊕ ε)} {c : ρ ⊕ ε} (h : sl7 o k = some c) : (∃ q, o = some (.inl q) ∧ .inl q = c) ∨ ∃ a0 a1 a2 a3 a4 a5 a6, o = some (.inr (a0, a1, a2, a3, a4, a5, a6)) ∧ k a0 a1 a2 a3 a4 a5 a6 = some c := by
  cases o with
  | none => cases h
  | some q =>
    cases q with
    | inl q => exact Or.inl ⟨q, rfl, Option.some.inj h⟩
    | inr q => obtain ⟨a0, a1, a2, a3, a4, a5, a6⟩ := q; exact Or.inr ⟨_, _, _, _, _, _, _, rfl, h⟩
def bd8 {α0 α1 α2 α3 α4 α5 α6 α7 γ : Type} (o : Option (α0 × α1 × α2 × α3 × α4 × α5 × α6 × α7)) (k : α0 → α1 → α2 → α3 → α4 → α5 → α6 → α7 → Option γ) : Option γ := match o with
  | none => none
  | some (a0, a1, a2, a3, a4, a5, a6, a7) => k a0 a1 a2 a3 a4 a5 a6 a7
theorem bd8_some {α0 α1 α2 α3 α4 α5 α6 α7 γ : Type} {o : Option (α0 × α1 × α2 × α3 × α4 × α5 × α6 × α7)} {k : α0 → α1 → α2 → α3 → α4 → α5 → α6 → α7 → Option γ} {c : γ} (h : bd8 o k = some c) : ∃ a0 a1 a2 a3 a4 a5 a6 a7, o = some (a0, a1, a2, a3, a4, a5, a6, a7) ∧ k a0 a1 a2 a3 a4 a5 a6 a7 = some c := by
  cases o with
  | none => cases h
  | some q => obtain ⟨a0, a1, a2, a3, a4, a5, a6, a7⟩ := q; exact ⟨_, _, _, _, _, _, _, _, rfl, h⟩
def st8 {α0 α1 α2 α3 α4 α5 α6 α7 ρ : Type} (o : Option (ρ ⊕ (α0 × α1 × α2 × α3 × α4 × α5 × α6 × α7))) (k : α0 → α1 → α2 → α3 → α4 → α5 → α6 → α7 → Option ρ) : Option ρ := match o with
  | none => none
  | some (.inl q) => some q
  | some (.inr (a0, a1, a2, a3, a4, a5, a6, a7)) => k a0 a1 a2 a3 a4 a5 a6 a7
theorem st8_some {α0 α1 α2 α3 α4 α5 α6 α7 ρ : Type} {o : Option (ρ ⊕ (α0 × α1 × α2 × α3 × α4 × α5 × α6 × α7))} {k : α0 → α1 → α2 → α3 → α4 → α5 → α6 → α7 → Option ρ} {c : ρ} (h : st8 o k = some c) : o = some (.inl c) ∨ ∃ a0 a1 a2 a3 a4 a5 a6 a7, o = some (.inr (a0, a1, a2, a3, a4, a5, a6, a7)) ∧ k a0 a1 a2 a3 a4 a5 a6 a7 = some c := by
  cases o with
  | none => cases h
  | some q =>
    cases q with
    | inl q => exact Or.inl (congrArg (fun z => some (Sum.inl z)) (Option.some.inj h))
    | inr q => obtain ⟨a0, a1, a2, a3, a4, a5, a6, a7⟩ := q; exact Or.inr ⟨_, _, _, _, _, _, _, _, rfl, h⟩
def sl8 {α0 α1 α2 α3 α4 α5 α6 α7 ρ ε : Type} (o : Option (ρ ⊕ (α0 × α1 × α2 × α3 × α4 × α5 × α6 × α7))) (k : α0 → α1 → α2 → α3 → α4 → α5 → α6 → α7 → Option (ρ ⊕ ε)) : Option (ρ ⊕ ε) := match o with
  | none => none
  | some (.inl q) => some (.inl q)
  | some (.inr (a0, a1, a2, a3, a4, a5, a6, a7)) => k a0 a1 a2 a3 a4 a5 a6 a7
theorem sl8_some {α0 α1 α2 α3 α4 α5 α6 α7 ρ ε : Type} {o : Option (ρ ⊕ (α0 × α1 × α2 × α3 × α4 × α5 × α6 × α7))} {k : α0 → α1 → α2 → α3 → α4 → α5 → α6 → α7 → Option (ρ ⊕ ε)} {c : ρ ⊕ ε} (h : sl8 o k = some c) : (∃ q, o = some (.inl q) ∧ .inl q = c) ∨ ∃ a0 a1 a2 a3 a4 a5 a6 a7, o = some (.inr (a0, a1, a2, a3, a4, a5, a6, a7)) ∧ k a0 a1 a2 a3 a4 a5 a6 a7 = some c := by
  cases o with
  | none => cases h
  | some q =>
    cases q with
    | inl q => exact Or.inl ⟨q, rfl, Option.some.inj h⟩
    | inr q => obtain ⟨a0, a1, a2, a3, a4, a5, a6, a7⟩ := q; exact Or.inr ⟨_, _, _, _, _, _, _, _, rfl, h⟩
def bd9 {α0 α1 α2 α3 α4 α5 α6 α7 α8 γ : Type} (o : Option (α0 × α1 × α2 × α3 × α4 × α5 × α6 × α7 × α8)) (k : α0 → α1 → α2 → α3 → α4 → α5 → α6 → α7 → α8 → Option γ) : Option γ := match o with
  | none => none
  | some (a0, a1, a2, a3, a4, a5, a6, a7, a8) => k a0 a1 a2 a3 a4 a5 a6 a7 a8
theorem bd9_some {α0 α1 α2 α3 α4 α5 α6 α7 α8 γ : Type} {o : Option (α0 × α1 × α2 × α3 × α4 × α5 × α6 × α7 × α8)} {k : α0 → α1 → α2 → α3 → α4 → α5 → α6 → α7 → α8 → Option γ} {c : γ} (h : bd9 o k = some c) : ∃ a0 a1 a2 a3 a4 a5 a6 a7 a8, o = some (a0, a1, a2, a3, a4, a5, a6, a7, a8) ∧ k a0 a1 a2 a3 a4 a5 a6 a7 a8 = some c := by
  cases o with
  | none => cases h
  | some q => obtain ⟨a0, a1, a2, a3, a4, a5, a6, a7, a8⟩ := q; exact ⟨_, _, _, _, _, _, _, _, _, rfl, h⟩
def st9 {α0 α1 α2 α3 α4 α5 α6 α7 α8 ρ : Type} (o : Option (ρ ⊕ (α0 × α1 × α2 × α3 × α4 × α5 × α6 × α7 × α8))) (k : α0 → α1 → α2 → α3 → α4 → α5 → α6 → α7 → α8 → Option ρ) : Option ρ := match o with
  | none => none
  | some (.inl q) => some q
  | some (.inr (a0, a1, a2, a3, a4, a5, a6, a7, a8)) => k a0 a1 a2 a3 a4 a5 a6 a7 a8
theorem st9_some {α0 α1 α2 α3 α4 α5 α6 α7 α8 ρ : Type} {o : Option (ρ ⊕ (α0 × α1 × α2 × α3 × α4 × α5 × α6 × α7 × α8))} {k : α0 → α1 → α2 → α3 → α4 → α5 → α6 → α7 → α8 → Option ρ} {c : ρ} (h : st9 o k = some c) : o = some (.inl c) ∨ ∃ a0 a1 a2 a3 a4 a5 a6 a7 a8, o = some (.inr (a0, a1, a2, a3, a4, a5, a6, a7, a8)) ∧ k a0 a1 a2 a3 a4 a5 a6 a7 a8 = some c := by
  cases o with
  | none => cases h
  | some q =>
    cases q with
    | inl q => exact Or.inl (congrArg (fun z => some (Sum.inl z)) (Option.some.inj h))
    | inr q => obtain ⟨a0, a1, a2, a3, a4, a5, a6, a7, a8⟩ := q; exact Or.inr ⟨_, _, _, _, _, _, _, _, _, rfl, h⟩
def sl9 {α0 α1 α2 α3 α4 α5 α6 α7 α8 ρ ε : Type} (o : Option (ρ ⊕ (α0 × α1 × α2 × α3 × α4 × α5 × α6 × α7 × α8))) (k : α0 → α1 → α2 → α3 → α4 → α5 → α6 → α7 → α8 → Option (ρ ⊕ ε)) : Option (ρ ⊕ ε) := match o with
  | none => none
  | some (.inl q) => some (.inl q)
  | some (.inr (a0, a1, a2, a3, a4, a5, a6, a7, a8)) => k a0 a1 a2 a3 a4 a5 a6 a7 a8
theorem sl9_some {α0 α1 α2 α3 α4 α5 α6 α7 α8 ρ ε : Type} {o : Option (ρ ⊕ (α0 × α1 × α2 × α3 × α4 × α5 × α6 × α7 × α8))} {k : α0 → α1 → α2 → α3 → α4 → α5 → α6 → α7 → α8 → Option (ρ ⊕ ε)} {c : ρ ⊕ ε} (h : sl9 o k = some c) : (∃ q, o = some (.inl q) ∧ .inl q = c) ∨ ∃ a0 a1 a2 a3 a4 a5 a6 a7 a8, o = some (.inr (a0, a1, a2, a3, a4, a5, a6, a7, a8)) ∧ k a0 a1 a2 a3 a4 a5 a6 a7 a8 = some c := by
  cases o with
  | none => cases h
  | some q =>
    cases q with
    | inl q => exact Or.inl ⟨q, rfl, Option.some.inj h⟩
    | inr q => obtain ⟨a0, a1, a2, a3, a4, a5, a6, a7, a8⟩ := q; exact Or.inr ⟨_, _, _, _, _, _, _, _, _, rfl, h⟩
def bd10 {α0 α1 α2 α3 α4 α5 α6 α7 α8 α9 γ : Type} (o : Option (α0 × α1 × α2 × α3 × α4 × α5 × α6 × α7 × α8 × α9)) (k : α0 → α1 → α2 → α3 → α4 → α5 → α6 → α7 → α8 → α9 → Option γ) : Option γ := match o with
  | none => none
  | some (a0, a1, a2, a3, a4, a5, a6, a7, a8, a9) => k a0 a1 a2 a3 a4 a5 a6 a7 a8 a9
theorem bd10_some {α0 α1 α2 α3 α4 α5 α6 α7 α8 α9 γ : Type} {o : Option (α0 × α1 × α2 × α3 × α4 × α5 × α6 × α7 × α8 × α9)} {k : α0 → α1 → α2 → α3 → α4 → α5 → α6 → α7 → α8 → α9 → Option γ} {c : γ} (h : bd10 o k = some c) : ∃ a0 a1 a2 a3 a4 a5 a6 a7 a8 a9, o = some (a0, a1, a2, a3, a4, a5, a6, a7, a8, a9) ∧ k a0 a1 a2 a3 a4 a5 a6 a7 a8 a9 = some c := by
  cases o with
  | none => cases h
  | some q => obtain ⟨a0, a1, a2, a3, a4, a5, a6, a7, a8, a9⟩ := q; exact ⟨_, _, _, _, _, _, _, _, _, _, rfl, h⟩
def st10 {α0 α1 α2 α3 α4 α5 α6 α7 α8 α9 ρ : Type} (o : Option (ρ ⊕ (α0 × α1 × α2 × α3 × α4 × α5 × α6 × α7 × α8 × α9))) (k : α0 → α1 → α2 → α3 → α4 → α5 → α6 → α7 → α8 → α9 → Option ρ) : Option ρ := match o with
  | none => none
  | some (.inl q) => some q
  | some (.inr (a0, a1, a2, a3, a4, a5, a6, a7, a8, a9)) => k a0 a1 a2 a3 a4 a5 a6 a7 a8 a9
theorem st10_some {α0 α1 α2 α3 α4 α5 α6 α7 α8 α9 ρ : Type} {o : Option (ρ ⊕ (α0 × α1 × α2 × α3 × α4 × α5 × α6 × α7 × α8 × α9))} {k : α0 → α1 → α2 → α3 → α4 → α5 → α6 → α7 → α8 → α9 → Option ρ} {c : ρ} (h : st10 o k = some c) : o = some (.inl c) ∨ ∃ a0 a1 a2 a3 a4 a5 a6 a7 a8 a9, o = some (.inr (a0, a1, a2, a3, a4, a5, a6, a7, a8, a9)) ∧ k a0 a1 a2 a3 a4 a5 a6 a7 a8 a9 = some c := by
  cases o with
  | none => cases h
  | some q =>
    cases q with
    | inl q => exact Or.inl (congrArg (fun z => some (Sum.inl z)) (Option.some.inj h))
    | inr q => obtain ⟨a0, a1, a2, a3, a4, a5, a6, a7, a8, a9⟩ := q; exact Or.inr ⟨_, _, _, _, _, _, _, _, _, _, rfl, h⟩
def sl10 {α0 α1 α2 α3 α4 α5 α6 α7 α8 α9 ρ ε : Type} (o : Option (ρ ⊕ (α0 × α1 × α2 × α3 × α4 × α5 × α6 × α7 × α8 × α9))) (k : α0 → α1 → α2 → α3 → α4 → α5 → α6 → α7 → α8 → α9 → Option (ρ ⊕ ε)) : Option (ρ ⊕ ε) := match o with
  | none => none
  | some (.inl q) => some (.inl q)
  | some (.inr (a0, a1, a2, a3, a4, a5, a6, a7, a8, a9)) => k a0 a1 a2 a3 a4 a5 a6 a7 a8 a9
theorem sl10_some {α0 α1 α2 α3 α4 α5 α6 α7 α8 α9 ρ ε : Type} {o : Option (ρ ⊕ (α0 × α1 × α2 × α3 × α4 × α5 × α6 × α7 × α8 × α9))} {k : α0 → α1 → α2 → α3 → α4 → α5 → α6 → α7 → α8 → α9 → Option (ρ ⊕ ε)} {c : ρ ⊕ ε} (h : sl10 o k = some c) : (∃ q, o = some (.inl q) ∧ .inl q = c) ∨ ∃ a0 a1 a2 a3 a4 a5 a6 a7 a8 a9, o = some (.inr (a0, a1, a2, a3, a4, a5, a6, a7, a8, a9)) ∧ k a0 a1 a2 a3 a4 a5 a6 a7 a8 a9 = some c := by
  cases o with
  | none => cases h
  | some q =>
    cases q with
    | inl q => exact Or.inl ⟨q, rfl, Option.some.inj h⟩
    | inr q => obtain ⟨a0, a1, a2, a3, a4, a5, a6, a7, a8, a9⟩ := q; exact Or.inr ⟨_, _, _, _, _, _, _, _, _, _, rfl, h⟩
def bd11 {α0 α1 α2 α3 α4 α5 α6 α7 α8 α9 α10 γ : Type} (o : Option (α0 × α1 × α2 × α3 × α4 × α5 × α6 × α7 × α8 × α9 × α10)) (k : α0 → α1 → α2 → α3 → α4 → α5 → α6 → α7 → α8 → α9 → α10 → Option γ) : Option γ := match o with
  | none => none
  | some (a0, a1, a2, a3, a4, a5, a6, a7, a8, a9, a10) => k a0 a1 a2 a3 a4 a5 a6 a7 a8 a9 a10
theorem bd11_some {α0 α1 α2 α3 α4 α5 α6 α7 α8 α9 α10 γ : Type} {o : Option (α0 × α1 × α2 × α3 × α4 × α5 × α6 × α7 × α8 × α9 × α10)} {k : α0 → α1 → α2 → α3 → α4 → α5 → α6 → α7 → α8 → α9 → α10 → Option γ} {c : γ} (h : bd11 o k = some c) : ∃ a0 a1 a2 a3 a4 a5 a6 a7 a8 a9 a10, o = some (a0, a1, a2, a3, a4, a5, a6, a7, a8, a9, a10) ∧ k a0 a1 a2 a3 a4 a5 a6 a7 a8 a9 a10 = some c := by
  cases o with
  | none => cases h
  | some q => obtain ⟨a0, a1, a2, a3, a4, a5, a6, a7, a8, a9, a10⟩ := q; exact ⟨_, _, _, _, _, _, _, _, _, _, _, rfl, h⟩
def st11 {α0 α1 α2 α3 α4 α5 α6 α7 α8 α9 α10 ρ : Type} (o : Option (ρ ⊕ (α0 × α1 × α2 × α3 × α4 × α5 × α6 × α7 × α8 × α9 × α10))) (k : α0 → α1 → α2 → α3 → α4 → α5 → α6 → α7 → α8 → α9 → α10 → Option ρ) : Option ρ := match o with
  | none => none
  | some (.inl q) => some q
  | some (.inr (a0, a1, a2, a3, a4, a5, a6, a7, a8, a9, a10)) => k a0 a1 a2 a3 a4 a5 a6 a7 a8 a9 a10
theorem st11_some {α0 α1 α2 α3 α4 α5 α6 α7 α8 α9 α10 ρ : Type} {o : Option (ρ ⊕ (α0 × α1 × α2 × α3 × α4 × α5 × α6 × α7 × α8 × α9 × α10))} {k : α0 → α1 → α2 → α3 → α4 → α5 → α6 → α7 → α8 → α9 → α10 → Option ρ} {c : ρ} (h : st11 o k = some c) : o = some (.inl c) ∨ ∃ a0 a1 a2 a3 a4 a5 a6 a7 a8 a9 a10, o = some (.inr (a0, a1, a2, a3, a4, a5, a6, a7, a8, a9, a10)) ∧ k a0 a1 a2 a3 a4 a5 a6 a7 a8 a9 a10 = some c := by
  cases o with
  | none => cases h
  | some q =>
    cases q with
    | inl q => exact Or.inl (congrArg (fun z => some (Sum.inl z)) (Option.some.inj h))
    | inr q => obtain ⟨a0, a1, a2, a3, a4, a5, a6, a7, a8, a9, a10⟩ := q; exact Or.inr ⟨_, _, _, _, _, _, _, _, _, _, _, rfl, h⟩
def sl11 {α0 α1 α2 α3 α4 α5 α6 α7 α8 α9 α10 ρ ε : Type} (o : Option (ρ ⊕ (α0 × α1 × α2 × α3 × α4 × α5 × α6 × α7 × α8 × α9 × α10))) (k : α0 → α1 → α2 → α3 → α4 → α5 → α6 → α7 → α8 → α9 → α10 → Option (ρ ⊕ ε)) : Option (ρ ⊕ ε) := match o with
  | none => none
  | some (.inl q) => some (.inl q)
  | some (.inr (a0, a1, a2, a3, a4, a5, a6, a7, a8, a9, a10)) => k a0 a1 a2 a3 a4 a5 a6 a7 a8 a9 a10
theorem sl11_some {α0 α1 α2 α3 α4 α5 α6 α7 α8 α9 α10 ρ ε : Type} {o : Option (ρ ⊕ (α0 × α1 × α2 × α3 × α4 × α5 × α6 × α7 × α8 × α9 × α10))} {k : α0 → α1 → α2 → α3 → α4 → α5 → α6 → α7 → α8 → α9 → α10 → Option (ρ ⊕ ε)} {c : ρ ⊕ ε} (h : sl11 o k = some c) : (∃ q, o = some (.inl q) ∧ .inl q = c) ∨ ∃ a0 a1 a2 a3 a4 a5 a6 a7 a8 a9 a10, o = some (.inr (a0, a1, a2, a3, a4, a5, a6, a7, a8, a9, a10)) ∧ k a0 a1 a2 a3 a4 a5 a6 a7 a8 a9 a10 = some c := by
  cases o with
  | none => cases h
  | some q =>
    cases q with
    | inl q => exact Or.inl ⟨q, rfl, Option.some.inj h⟩
    | inr q => obtain ⟨a0, a1, a2, a3, a4, a5, a6, a7, a8, a9, a10⟩ := q; exact Or.inr ⟨_, _, _, _, _, _, _, _, _, _, _, rfl, h⟩
def bd12 {α0 α1 α2 α3 α4 α5 α6 α7 α8 α9 α10 α11 γ : Type} (o : Option (α0 × α1 × α2 × α3 × α4 × α5 × α6 × α7 × α8 × α9 × α10 × α11)) (k : α0 → α1 → α2 → α3 → α4 → α5 → α6 → α7 → α8 → α9 → α10 → α11 → Option γ) : Option γ := match o with
  | none => none
  | some (a0, a1, a2, a3, a4, a5, a6, a7, a8, a9, a10, a11) => k a0 a1 a2 a3 a4 a5 a6 a7 a8 a9 a10 a11
theorem bd12_some {α0 α1 α2 α3 α4 α5 α6 α7 α8 α9 α10 α11 γ : Type} {o : Option (α0 × α1 × α2 × α3 × α4 × α5 × α6 × α7 × α8 × α9 × α10 × α11)} {k : α0 → α1 → α2 → α3 → α4 → α5 → α6 → α7 → α8 → α9 → α10 → α11 → Option γ} {c : γ} (h : bd12 o k = some c) : ∃ a0 a1 a2 a3 a4 a5 a6 a7 a8 a9 a10 a11, o = some (a0, a1, a2, a3, a4, a5, a6, a7, a8, a9, a10, a11) ∧ k a0 a1 a2 a3 a4 a5 a6 a7 a8 a9 a10 a11 = some c := by
  cases o with
  | none => cases h
  | some q => obtain ⟨a0, a1, a2, a3, a4, a5, a6, a7, a8, a9, a10, a11⟩ := q; exact ⟨_, _, _, _, _, _, _, _, _, _, _, _, rfl, h⟩
def st12 {α0 α1 α2 α3 α4 α5 α6 α7 α8 α9 α10 α11 ρ : Type} (o : Option (ρ ⊕ (α0 × α1 × α2 × α3 × α4 × α5 × α6 × α7 × α8 × α9 × α10 × α11))) (k : α0 → α1 → α2 → α3 → α4 → α5 → α6 → α7 → α8 → α9 → α10 → α11 → Option ρ) : Option ρ := match o with
  | none => none
  | some (.inl q) => some q
  | some (.inr (a0, a1, a2, a3, a4, a5, a6, a7, a8, a9, a10, a11)) => k a0 a1 a2 a3 a4 a5 a6 a7 a8 a9 a10 a11
theorem st12_some {α0 α1 α2 α3 α4 α5 α6 α7 α8 α9 α10 α11 ρ : Type} {o : Option (ρ ⊕ (α0 × α1 × α2 × α3 × α4 × α5 × α6 × α7 × α8 × α9 × α10 × α11))} {k : α0 → α1 → α2 → α3 → α4 → α5 → α6 → α7 → α8 → α9 → α10 → α11 → Option ρ} {c : ρ} (h : st12 o k = some c) : o = some (.inl c) ∨ ∃ a0 a1 a2 a3 a4 a5 a6 a7 a8 a9 a10 a11, o = some (.inr (a0, a1, a2, a3, a4, a5, a6, a7, a8, a9, a10, a11)) ∧ k a0 a1 a2 a3 a4 a5 a6 a7 a8 a9 a10 a11 = some c := by
  cases o with
  | none => cases h
  | some q =>
    cases q with
    | inl q => exact Or.inl (congrArg (fun z => some (Sum.inl z)) (Option.some.inj h))
    | inr q => obtain ⟨a0, a1, a2, a3, a4, a5, a6, a7, a8, a9, a10, a11⟩ := q; exact Or.inr ⟨_, _, _, _, _, _, _, _, _, _, _, _, rfl, h⟩
def sl12 {α0 α1 α2 α3 α4 α5 α6 α7 α8 α9 α10 α11 ρ ε : Type} (o : Option (ρ ⊕ (α0 × α1 × α2 × α3 × α4 × α5 × α6 × α7 × α8 × α9 × α10 × α11))) (k : α0 → α1 → α2 → α3 → α4 → α5 → α6 → α7 → α8 → α9 → α10 → α11 → Option (ρ ⊕ ε)) : Option (ρ ⊕ ε) := match o with
  | none => none
  | some (.inl q) => some (.inl q)
  | some (.inr (a0, a1, a2, a3, a4, a5, a6, a7, a8, a9, a10, a11)) => k a0 a1 a2 a3 a4 a5 a6 a7 a8 a9 a10 a11
theorem sl12_some {α0 α1 α2 α3 α4 α5 α6 α7 α8 α9 α10 α11 ρ ε : Type} {o : Option (ρ ⊕ (α0 × α1 × α2 × α3 × α4 × α5 × α6 × α7 × α8 × α9 × α10 × α11))} {k : α0 → α1 → α2 → α3 → α4 → α5 → α6 → α7 → α8 → α9 → α10 → α11 → Option (ρ ⊕ ε)} {c : ρ ⊕ ε} (h : sl12 o k = some c) : (∃ q, o = some (.inl q) ∧ .inl q = c) ∨ ∃ a0 a1 a2 a3 a4 a5 a6 a7 a8 a9 a10 a11, o = some (.inr (a0, a1, a2, a3, a4, a5, a6, a7, a8, a9, a10, a11)) ∧ k a0 a1 a2 a3 a4 a5 a6 a7 a8 a9 a10 a11 = some c := by
  cases o with
  | none => cases h
  | some q =>
    cases q with
    | inl q => exact Or.inl ⟨q, rfl, Option.some.inj h⟩
    | inr q => obtain ⟨a0, a1, a2, a3, a4, a5, a6, a7, a8, a9, a10, a11⟩ := q; exact Or.inr ⟨_, _, _, _, _, _, _, _, _, _, _, _, rfl, h⟩
def bd13 {α0 α1 α2 α3 α4 α5 α6 α7 α8 α9 α10 α11 α12 γ : Type} (o : Option (α0 × α1 × α2 × α3 × α4 × α5 × α6 × α7 × α8 × α9 × α10 × α11 × α12)) (k : α0 → α1 → α2 → α3 → α4 → α5 → α6 → α7 → α8 → α9 → α10 → α11 → α12 → Option γ) : Option γ := match o with
  | none => none
  | some (a0, a1, a2, a3, a4, a5, a6, a7, a8, a9, a10, a11, a12) => k a0 a1 a2 a3 a4 a5 a6 a7 a8 a9 a10 a11 a12
theorem bd13_some {α0 α1 α2 α3 α4 α5 α6 α7 α8 α9 α10 α11 α12 γ : Type} {o : Option (α0 × α1 × α2 × α3 × α4 × α5 × α6 × α7 × α8 × α9 × α10 × α11 × α12)} {k : α0 → α1 → α2 → α3 → α4 → α5 → α6 → α7 → α8 → α9 → α10 → α11 → α12 → Option γ} {c : γ} (h : bd13 o k = some c) : ∃ a0 a1 a2 a3 a4 a5 a6 a7 a8 a9 a10 a11 a12, o = some (a0, a1, a2, a3, a4, a5, a6, a7, a8, a9, a10, a11, a12) ∧ k a0 a1 a2 a3 a4 a5 a6 a7 a8 a9 a10 a11 a12 = some c := by
  cases o with
  | none => cases h
  | some q => obtain ⟨a0, a1, a2, a3, a4, a5, a6, a7, a8, a9, a10, a11, a12⟩ := q; exact ⟨_, _, _, _, _, _, _, _, _, _, _, _, _, rfl, h⟩
def st13 {α0 α1 α2 α3 α4 α5 α6 α7 α8 α9 α10 α11 α12 ρ : Type} (o : Option (ρ ⊕ (α0 × α1 × α2 × α3 × α4 × α5 × α6 × α7 × α8 × α9 × α10 × α11 × α12))) (k : α0 → α1 → α2 → α3 → α4 → α5 → α6 → α7 → α8 → α9 → α10 → α11 → α12 → Option ρ) : Option ρ := match o with
  | none => none
  | some (.inl q) => some q
  | some (.inr (a0, a1, a2, a3, a4, a5, a6, a7, a8, a9, a10, a11, a12)) => k a0 a1 a2 a3 a4 a5 a6 a7 a8 a9 a10 a11 a12
theorem st13_some {α0 α1 α2 α3 α4 α5 α6 α7 α8 α9 α10 α11 α12 ρ : Type} {o : Option (ρ ⊕ (α0 × α1 × α2 × α3 × α4 × α5 × α6 × α7 × α8 × α9 × α10 × α11 × α12))} {k : α0 → α1 → α2 → α3 → α4 → α5 → α6 → α7 → α8 → α9 → α10 → α11 → α12 → Option ρ} {c : ρ} (h : st13 o k = some c) : o = some (.inl c) ∨ ∃ a0 a1 a2 a3 a4 a5 a6 a7 a8 a9 a10 a11 a12, o = some (.inr (a0, a1, a2, a3, a4, a5, a6, a7, a8, a9, a10, a11, a12)) ∧ k a0 a1 a2 a3 a4 a5 a6 a7 a8 a9 a10 a11 a12 = some c := by
  cases o with
  | none => cases h
  | some q =>
    cases q with
    | inl q => exact Or.inl (congrArg (fun z => some (Sum.inl z)) (Option.some.inj h))
    | inr q => obtain ⟨a0, a1, a2, a3, a4, a5, a6, a7, a8, a9, a10, a11, a12⟩ := q; exact Or.inr ⟨_, _, _, _, _, _, _, _, _, _, _, _, _, rfl, h⟩
def sl13 {α0 α1 α2 α3 α4 α5 α6 α7 α8 α9 α10 α11 α12 ρ ε : Type} (o : Option (ρ ⊕ (α0 × α1 × α2 × α3 × α4 × α5 × α6 × α7 × α8 × α9 × α10 × α11 × α12))) (k : α0 → α1 → α2 → α3 → α4 → α5 → α6 → α7 → α8 → α9 → α10 → α11 → α12 → Option (ρ ⊕ ε)) : Option (ρ ⊕ ε) := match o with
  | none => none
  | some (.inl q) => some (.inl q)
  | some (.inr (a0, a1, a2, a3, a4, a5, a6, a7, a8, a9, a10, a11, a12)) => k a0 a1 a2 a3 a4 a5 a6 a7 a8 a9 a10 a11 a12
theorem sl13_some {α0 α1 α2 α3 α4 α5 α6 α7 α8 α9 α10 α11 α12 ρ ε : Type} {o : Option (ρ ⊕ (α0 × α1 × α2 × α3 × α4 × α5 × α6 × α7 × α8 × α9 × α10 × α11 × α12))} {k : α0 → α1 → α2 → α3 → α4 → α5 → α6 → α7 → α8 → α9 → α10 → α11 → α12 → Option (ρ ⊕ ε)} {c : ρ ⊕ ε} (h : sl13 o k = some c) : (∃ q, o = some (.inl q) ∧ .inl q = c) ∨ ∃ a0 a1 a2 a3 a4 a5 a6 a7 a8 a9 a10 a11 a12, o = some (.inr (a0, a1, a2, a3, a4, a5, a6, a7, a8, a9, a10, a11, a12)) ∧ k a0 a1 a2 a3 a4 a5 a6 a7 a8 a9 a10 a11 a12 = some c := by
  cases o with
  | none => cases h
  | some q =>
    cases q with
    | inl q => exact Or.inl ⟨q, rfl, Option.some.inj h⟩
    | inr q => obtain ⟨a0, a1, a2, a3, a4, a5, a6, a7, a8, a9, a10, a11, a12⟩ := q; exact Or.inr ⟨_, _, _, _, _, _, _, _, _, _, _, _, _, rfl, h⟩
def bd14 {α0 α1 α2 α3 α4 α5 α6 α7 α8 α9 α10 α11 α12 α13 γ : Type} (o : Option (α0 × α1 × α2 × α3 × α4 × α5 × α6 × α7 × α8 × α9 × α10 × α11 × α12 × α13)) (k : α0 → α1 → α2 → α3 → α4 → α5 → α6 → α7 → α8 → α9 → α10 → α11 → α12 → α13 → Option γ) : Option γ := match o with
  | none => none
  | some (a0, a1, a2, a3, a4, a5, a6, a7, a8, a9, a10, a11, a12, a13) => k a0 a1 a2 a3 a4 a5 a6 a7 a8 a9 a10 a11 a12 a13
theorem bd14_some {α0 α1 α2 α3 α4 α5 α6 α7 α8 α9 α10 α11 α12 α13 γ : Type} {o : Option (α0 × α1 × α2 × α3 × α4 × α5 × α6 × α7 × α8 × α9 × α10 × α11 × α12 × α13)} {k : α0 → α1 → α2 → α3 → α4 → α5 → α6 → α7 → α8 → α9 → α10 → α11 → α12 → α13 → Option γ} {c : γ} (h : bd14 o k = some c) : ∃ a0 a1 a2 a3 a4 a5 a6 a7 a8 a9 a10 a11 a12 a13, o = some (a0, a1, a2, a3, a4, a5, a6, a7, a8, a9, a10, a11, a12, a13) ∧ k a0 a1 a2 a3 a4 a5 a6 a7 a8 a9 a10 a11 a12 a13 = some c := by
  cases o with
  | none => cases h
  | some q => obtain ⟨a0, a1, a2, a3, a4, a5, a6, a7, a8, a9, a10, a11, a12, a13⟩ := q; exact ⟨_, _, _, _, _, _, _, _, _, _, _, _, _, _, rfl, h⟩
def st14 {α0 α1 α2 α3 α4 α5 α6 α7 α8 α9 α10 α11 α12 α13 ρ : Type} (o : Option (ρ ⊕ (α0 × α1 × α2 × α3 × α4 × α5 × α6 × α7 × α8 × α9 × α10 × α11 × α12 × α13))) (k : α0 → α1 → α2 → α3 → α4 → α5 → α6 → α7 → α8 → α9 → α10 → α11 → α12 → α13 → Option ρ) : Option ρ := match o with
  | none => none
  | some (.inl q) => some q
  | some (.inr (a0, a1, a2, a3, a4, a5, a6, a7, a8, a9, a10, a11, a12, a13)) => k a0 a1 a2 a3 a4 a5 a6 a7 a8 a9 a10 a11 a12 a13
theorem st14_some {α0 α1 α2 α3 α4 α5 α6 α7 α8 α9 α10 α11 α12 α13 ρ : Type} {o : Option (ρ ⊕ (α0 × α1 × α2 × α3 × α4 × α5 × α6 × α7 × α8 × α9 × α10 × α11 × α12 × α13))} {k : α0 → α1 → α2 → α3 → α4 → α5 → α6 → α7 → α8 → α9 → α10 → α11 → α12 → α13 → Option ρ} {c : ρ} (h : st14 o k = some c) : o = some (.inl c) ∨ ∃ a0 a1 a2 a3 a4 a5 a6 a7 a8 a9 a10 a11 a12 a13, o = some (.inr (a0, a1, a2, a3, a4, a5, a6, a7, a8, a9, a10, a11, a12, a13)) ∧ k a0 a1 a2 a3 a4 a5 a6 a7 a8 a9 a10 a11 a12 a13 = some c := by
  cases o with
  | none => cases h
  | some q =>
    cases q with
    | inl q => exact Or.inl (congrArg (fun z => some (Sum.inl z)) (Option.some.inj h))
    | inr q => obtain ⟨a0, a1, a2, a3, a4, a5, a6, a7, a8, a9, a10, a11, a12, a13⟩ := q; exact Or.inr ⟨_, _, _, _, _, _, _, _, _, _, _, _, _, _, rfl, h⟩
def sl14 {α0 α1 α2 α3 α4 α5 α6 α7 α8 α9 α10 α11 α12 α13 ρ ε : Type} (o : Option (ρ ⊕ (α0 × α1 × α2 × α3 × α4 × α5 × α6 × α7 × α8 × α9 × α10 × α11 × α12 × α13))) (k : α0 → α1 → α2 → α3 → α4 → α5 → α6 → α7 → α8 → α9 → α10 → α11 → α12 → α13 → Option (ρ ⊕ ε)) : Option (ρ ⊕ ε) := match o with
  | none => none
  | some (.inl q) => some (.inl q)
  | some (.inr (a0, a1, a2, a3, a4, a5, a6, a7, a8, a9, a10, a11, a12, a13)) => k a0 a1 a2 a3 a4 a5 a6 a7 a8 a9 a10 a11 a12 a13
theorem sl14_some {α0 α1 α2 α3 α4 α5 α6 α7 α8 α9 α10 α11 α12 α13 ρ ε : Type} {o : Option (ρ ⊕ (α0 × α1 × α2 × α3 × α4 × α5 × α6 × α7 × α8 × α9 × α10 × α11 × α12 × α13))} {k : α0 → α1 → α2 → α3 → α4 → α5 → α6 → α7 → α8 → α9 → α10 → α11 → α12 → α13 → Option (ρ ⊕ ε)} {c : ρ ⊕ ε} (h : sl14 o k = some c) : (∃ q, o = some (.inl q) ∧ .inl q = c) ∨ ∃ a0 a1 a2 a3 a4 a5 a6 a7 a8 a9 a10 a11 a12 a13, o = some (.inr (a0, a1, a2, a3, a4, a5, a6, a7, a8, a9, a10, a11, a12, a13)) ∧ k a0 a1 a2 a3 a4 a5 a6 a7 a8 a9 a10 a11 a12 a13 = some c := by
  cases o with
  | none => cases h
  | some q =>
    cases q with
    | inl q => exact Or.inl ⟨q, rfl, Option.some.inj h⟩
    | inr q => obtain ⟨a0, a1, a2, a3, a4, a5, a6, a7, a8, a9, a10, a11, a12, a13⟩ := q; exact Or.inr ⟨_, _, _, _, _, _, _, _, _, _, _, _, _, _, rfl, h⟩
