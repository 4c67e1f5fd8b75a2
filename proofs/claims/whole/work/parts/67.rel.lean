/-! ===== pure: THE RELATION between the class's state and the reference's ===== -/
/-- a deed by its number -/
def spC (q : Nat) (v : Nat → Nat) : Nat → Nat := spV (q / 96) (q / 16 % 6) (q % 16) v
def rpV (q : Nat → Nat) (v : Nat → Nat) : Nat → (Nat → Nat)
  | 0 => v
  | j + 1 => spC (q j) (rpV q v j)
/-- a deed's number that a slice of n peels may have -/
def okD (n q : Nat) : Prop := q < 480 ∧ q / 16 % 6 < n
theorem rpV_WF {q : Nat → Nat} {v : Nat → Nat} {n : Nat} (h : WF v n 0) : ∀ k, (∀ j, j < k → okD n (q j)) → WF (rpV q v k) n k
  | 0, _ => h
  | k + 1, hq => spV_WF (rpV_WF h k (fun j hj => hq j (by omega))) (hq k (by omega)).2 (by omega)
/-- rows of ints that are missing or of a size up to w: the class's (sizes, items) and the reference's; 'ok' what each holds -/
def RW (m w : Nat) (ok : Int32 → Prop) (sizes items rsz rit : Nat → Int32) : Prop := ∀ r, r < m → (sizes r = -1 ∧ rsz r = -9) ∨ ∃ k, k ≤ w ∧ sizes r = nI k ∧ rsz r = nI k ∧ ∀ i, i < k → items (w * r + i) = rit (w * r + i) ∧ ok (items (w * r + i))
/-- a line of deeds: at b of the class's items k numbers; the reference's snapshots at s, and where it stands -/
def DL (n : Nat) (V : Nat → Nat) (items : Nat → Int32) (b k : Nat) (snap : Nat → Nat → Int32) (nowA : Nat → Int32) : Prop := ∃ q : Nat → Nat, k ≤ 40 ∧ (∀ j, j < k → items (b + j) = nI (q j) ∧ okD n (q j)) ∧ AR nowA (rpV q V k) ∧ ∀ j, j < k → AR (snap j) (rpV q V j)
def byteR (x : Int32) : Prop := -128 ≤ x ∧ x ≤ 127
def RelA (c : CS) (d : MS) : Prop := cs_finding c = ms_finding d ∧ cs_asked c = ms_asked d ∧ cs_upper c = ms_upper d ∧ cs_lower c = ms_lower d ∧ ∀ j, j < 6 → cs_findings c j = ms_findings d j
def RelB (c : CS) (d : MS) : Prop := RW 6 40 (fun _ => True) (cs_r_sizes c) (cs_r_items c) (ms_rowSize d) (ms_rows d)
def RelC (c : CS) (d : MS) : Prop := RW 4 60 byteR (cs_t_sizes c) (cs_t_items c) (ms_textSize d) (ms_texts d)
/-- the slice: its start V of n peels, its deeds, where it stands -/
def RelD (c : CS) (d : MS) (n : Nat) (V : Nat → Nat) (q : Nat → Nat) (k : Nat) : Prop :=
  WF V n 0 ∧ SL (cs_st_size c) (cs_st_need c) (cs_st_lifted c) (cs_st_licked c) (cs_st_morning c) (cs_st_tally c) (cs_st_kinds c) (cs_st_places c) (cs_st_lengths c) (cs_st_downs c) (cs_st_covers c) V n ∧
  k ≤ 40 ∧ cs_d_sizes c 3 = nI k ∧ ms_deeds d = nI k ∧ (∀ j, j < k → cs_d_items c (120 + j) = nI (q j) ∧ okD n (q j)) ∧
  SL (cs_sl_size c) (cs_sl_need c) (cs_sl_lifted c) (cs_sl_licked c) (cs_sl_morning c) (cs_sl_tally c) (cs_sl_kinds c) (cs_sl_places c) (cs_sl_lengths c) (cs_sl_downs c) (cs_sl_covers c) (rpV q V k) n ∧
  AR (ms_now d) (rpV q V k) ∧ (∀ j, j < k → AR (fun x => ms_past d (35 * j + x)) (rpV q V j)) ∧
  ∀ t, t < 3 → (cs_d_sizes c t = -1 ∧ ms_keptDeeds d t = -9) ∨ ∃ q' k', 0 < n ∧ k' ≤ 40 ∧ cs_d_sizes c t = nI k' ∧ ms_keptDeeds d t = nI k' ∧ (∀ j, j < k' → cs_d_items c (40 * t + j) = nI (q' j) ∧ okD n (q' j)) ∧ AR (fun x => ms_kept d (35 * t + x)) (rpV q' V k') ∧ ∀ j, j < k' → AR (fun x => ms_keptPast d (1400 * t + 35 * j + x)) (rpV q' V j)
def Rel (c : CS) (d : MS) : Prop := RelA c d ∧ RelB c d ∧ RelC c d ∧ ∃ n V q k, RelD c d n V q k
theorem szs6_v : ∀ r, r < 6 → szs6 r = -1 ∧ nos6 r = -9 := by decide
theorem szs4_v : ∀ r, r < 4 → szs4 r = -1 ∧ nos4 r = -9 := by decide
theorem szs3_v : ∀ t, t < 3 → upd szs4 3 0 t = -1 ∧ nos3 t = -9 := by decide
/-- the two new objects -/
theorem Rel_0 : Rel c00 d00 := by
  refine ⟨⟨rfl, rfl, rfl, rfl, fun _ _ => rfl⟩, fun r hr => Or.inl (szs6_v r hr), fun r hr => Or.inl (szs4_v r hr), 0, fun _ => 0, fun _ => 0, 0, ?_⟩
  have hw : WF (fun _ => 0) 0 0 := ⟨rfl, by decide, by decide, by decide, by decide, by decide, fun h => absurd h (by decide), fun i hi => absurd hi (Nat.not_lt_zero i)⟩
  refine ⟨hw, ⟨rfl, rfl, rfl, rfl, rfl, rfl, fun i hi => absurd hi (Nat.not_lt_zero i)⟩, by decide, rfl, rfl, fun j hj => absurd hj (Nat.not_lt_zero j), ⟨rfl, rfl, rfl, rfl, rfl, rfl, fun i hi => absurd hi (Nat.not_lt_zero i)⟩, fun x _ => rfl, fun j hj => absurd hj (Nat.not_lt_zero j), fun t ht => Or.inl (szs3_v t ht)⟩
