/-! ===== pure: shift, turn, lift, lick ===== -/
section
variable {size need lifted licked morning tally : Int32} {kinds places lengths downs covers : Nat → Int32} {n : Nat} {V q : Nat → Nat} {k : Nat} {Sst : Prop} {dsz dit : Nat → Int32} {deeds : Int32} {now past kd ke kp : Nat → Int32}
theorem RD.get (h : RD Sst (fun u => SL size need lifted licked morning tally kinds places lengths downs covers u n) dsz dit deeds now past kd ke kp n V q k) : WF (rpV q V k) n k ∧ SL size need lifted licked morning tally kinds places lengths downs covers (rpV q V k) n ∧ AR now (rpV q V k) ∧ k ≤ 40 ∧ dsz 3 = nI k ∧ deeds = nI k ∧ n ≤ 6 :=
  ⟨rpV_WF h.1 k (fun j hj => (h.2.2.2.2.2.1 j hj).2), h.2.2.2.2.2.2.1, h.2.2.2.2.2.2.2.1, h.2.2.1, h.2.2.2.1, h.2.2.2.2.1, h.1.2.1⟩
/-- what a deed's step comes to on both sides -/
def DD (Sst : Prop) (size need : Int32) (kinds lengths : Nat → Int32) (kd ke kp : Nat → Int32) (n : Nat) (V : Nat → Nat) (o4 : Option (Int32 × (Nat → Int32) × (Nat → Int32) × Int32 × Int32 × Int32 × Int32 × (Nat → Int32) × (Nat → Int32) × (Nat → Int32))) (o5 : Option (Int32 × Int32 × (Nat → Int32) × (Nat → Int32))) : Prop :=
  ∃ r dit dsz lf lk mo ta pl dn cv deeds now past q k, o4 = some (r, dit, dsz, lf, lk, mo, ta, pl, dn, cv) ∧ o5 = some (r, deeds, now, past) ∧ RD Sst (fun u => SL size need lf lk mo ta kinds pl lengths dn cv u n) dsz dit deeds now past kd ke kp n V q k
theorem DD.same (h : RD Sst (fun u => SL size need lifted licked morning tally kinds places lengths downs covers u n) dsz dit deeds now past kd ke kp n V q k) {r : Int32} {o4 : Option (Int32 × (Nat → Int32) × (Nat → Int32) × Int32 × Int32 × Int32 × Int32 × (Nat → Int32) × (Nat → Int32) × (Nat → Int32))} {o5 : Option (Int32 × Int32 × (Nat → Int32) × (Nat → Int32))} (e4 : o4 = some (r, dit, dsz, lifted, licked, morning, tally, places, downs, covers)) (e5 : o5 = some (r, deeds, now, past)) : DD Sst size need kinds lengths kd ke kp n V o4 o5 := ⟨r, _, _, _, _, _, _, _, _, _, _, _, _, q, k, e4, e5, h⟩
theorem DD.act (h : RD Sst (fun u => SL size need lifted licked morning tally kinds places lengths downs covers u n) dsz dit deeds now past kd ke kp n V q k) (hk : k < 40) {what i place : Nat} (hwh : what ≤ 4) (hi : i < n) (hp : place < 16) {r : Int32} {lf lk mo ta : Int32} {pl dn cv now' past' : Nat → Int32} {o4 : Option (Int32 × (Nat → Int32) × (Nat → Int32) × Int32 × Int32 × Int32 × Int32 × (Nat → Int32) × (Nat → Int32) × (Nat → Int32))} {o5 : Option (Int32 × Int32 × (Nat → Int32) × (Nat → Int32))}
    (hS : SL size need lf lk mo ta kinds pl lengths dn cv (spV what i place (rpV q V k)) n) (hN : AR now' (spV what i place (rpV q V k))) (hpast : ∀ y, past' y = if 35 * k ≤ y ∧ y < 35 * k + 35 then now (y - 35 * k) else past y)
    (e4 : o4 = some (r, upd dit (120 + k) (nI ((what * 6 + i) * 16 + place)), upd dsz 3 (nI (k + 1)), lf, lk, mo, ta, pl, dn, cv)) (e5 : o5 = some (r, nI (k + 1), now', past')) : DD Sst size need kinds lengths kd ke kp n V o4 o5 :=
  ⟨r, _, _, _, _, _, _, _, _, _, _, _, _, _, _, e4, e5, RD.act h (Ssl' := fun u => SL size need lf lk mo ta kinds pl lengths dn cv u n) hk hwh hi hp hS hN hpast⟩
theorem fl_shift (h : RD Sst (fun u => SL size need lifted licked morning tally kinds places lengths downs covers u n) dsz dit deeds now past kd ke kp n V q k) (x1 x2 : Int32) : DD Sst size need kinds lengths kd ke kp n V (fX4_shift dit dsz size need lifted licked morning tally kinds places lengths downs covers x1 x2) (fX5_shift deeds now past x1 x2) := by
  obtain ⟨hw, hs, ha, hk, hd, rfl, hn6⟩ := h.get
  rcases spl x1 (k := n) (by omega) with ⟨i, hi, rfl⟩ | hx
  rotate_left
  · have e4 : fX3_has size x1 = some 0 := by rw [hs.1]; exact c_hasN hx
    exact DD.same h (by unfold fX4_shift; rw [e4, bd1_s, if_pos rfl]) (by unfold fX5_shift; rw [m_isPeel0 ha hw hx, bd1_s, if_pos rfl])
  have e4 : fX3_has size (nI i) = some 1 := by rw [hs.1]; exact c_has hn6 hi
  rcases spl x2 (k := 16) (by decide) with ⟨p, hp, rfl⟩ | hx
  rotate_left
  · exact DD.same h (by unfold fX4_shift; rw [e4, bd1_s, if_neg one_ne, (in16_0 hx).1, bd1_s, if_pos rfl]) (by unfold fX5_shift; rw [m_isPeel1 ha hw hi, bd1_s, if_neg one_ne, (in16_0 hx).2, bd1_s, if_pos rfl])
  obtain ⟨-, b1, -, -, -⟩ := hw.2.2.2.2.2.2.2 i hi
  have epl := c_placeOf hs hw hi
  obtain ⟨-, p1, -, -, -⟩ := p35 ha (i := i) (by omega)
  by_cases ce : isV (rpV q V k) i = p
  · have ce' : nI (isV (rpV q V k) i) = nI p := by rw [ce]
    exact DD.same h (by unfold fX4_shift; rw [e4, bd1_s, if_neg one_ne, (in16 p hp).1, bd1_s, if_neg one_ne, epl, bd1_s, if_pos ce']) (by unfold fX5_shift; rw [m_isPeel1 ha hw hi, bd1_s, if_neg one_ne, (in16 p hp).2, bd1_s, if_neg one_ne, p1, bd1_s, if_pos ce'])
  have ce' : ¬ nI (isV (rpV q V k) i) = nI p := nI_le4 (by omega) (by omega) ce
  by_cases k40 : k = 40
  · have e40 : nI k = 40 := by rw [k40]; rfl
    exact DD.same h (by unfold fX4_shift; rw [e4, bd1_s, if_neg one_ne, (in16 p hp).1, bd1_s, if_neg one_ne, epl, bd1_s, if_neg ce', c_hasRoom hk hd, if_pos k40, bd1_s, if_pos rfl]) (by unfold fX5_shift; rw [m_isPeel1 ha hw hi, bd1_s, if_neg one_ne, (in16 p hp).2, bd1_s, if_neg one_ne, p1, bd1_s, if_neg ce', if_pos e40])
  have e40 : ¬ nI k = 40 := d40 hk k40
  obtain ⟨lf, lk, mo, ta, pl, dn, cv, ea, hS⟩ := c_act hs hw (k20 hk) (what := 1) (i := i) (place := p) (by decide) hi hp (dit := dit) (by omega) hd
  have ea : fX4_act dit dsz size need lifted licked morning tally kinds places lengths downs covers 1 (nI i) (nI p) = _ := ea
  obtain ⟨past', ep, hpp⟩ := m_notes (now := now) (past := past) (k := k) (by omega)
  have esp : spV 1 i p (rpV q V k) = upN (rpV q V k) (6 + 5 * i) p := by unfold spV; rw [if_neg (by decide), if_pos rfl]
  exact DD.act h (by omega) (by decide) hi hp hS (by rw [esp]; exact ha.up _ _) hpp (by unfold fX4_shift; rw [e4, bd1_s, if_neg one_ne, (in16 p hp).1, bd1_s, if_neg one_ne, epl, bd1_s, if_neg ce', c_hasRoom hk hd, if_neg k40, bd1_s, if_neg one_ne, ea, bd9_s]) (by unfold fX5_shift; rw [m_isPeel1 ha hw hi, bd1_s, if_neg one_ne, (in16 p hp).2, bd1_s, if_neg one_ne, p1, bd1_s, if_neg ce', if_neg e40, ep, bd2_s, ix1, s35 (by omega), bd1_s])
theorem m_changes {now past : Nat → Int32} {v : Nat → Nat} {n B k i o : Nat} (ha : AR now v) (hw : WF v n B) (hk : k < 40) (hi : i < n) (ho : o = 3 ∨ o = 4) : ∃ past', fX5_changes (nI k) now past (nI i) (nI o) = some (nI (1 - v (5 + o + 5 * i)), nI (k + 1), upd now (5 + o + 5 * i) (nI (1 - v (5 + o + 5 * i))), past') ∧ ∀ y, past' y = if 35 * k ≤ y ∧ y < 35 * k + 35 then now (y - 35 * k) else past y := by
  have hn6 := hw.2.1
  obtain ⟨-, -, -, b3, b4⟩ := hw.2.2.2.2.2.2.2 i hi
  have hle : v (5 + o + 5 * i) ≤ 1 := by
    rcases ho with rfl | rfl
    · exact Nat.le_of_lt_succ b3
    · exact Nat.le_of_lt_succ b4
  obtain ⟨past', ep, hpp⟩ := m_notes (now := now) (past := past) hk
  refine ⟨past', ?_, hpp⟩
  have eix : (5 : Int32) + 5 * nI i + nI o = nI (5 + o + 5 * i) := by rw [ix0, nI_add]; congr 1; omega
  have e4 : (1 : Int32) - nI (v (5 + o + 5 * i)) = nI (1 - v (5 + o + 5 * i)) := nI_sub (a := 1) hle
  unfold fX5_changes
  rw [ep, bd2_s, eix, r35 ha (by omega), bd1_s, e4, s35 (by omega), bd1_s, ald_nI (by omega) (by decide), upd_s, bd1_s]
theorem fl_turn (h : RD Sst (fun u => SL size need lifted licked morning tally kinds places lengths downs covers u n) dsz dit deeds now past kd ke kp n V q k) (x1 : Int32) : DD Sst size need kinds lengths kd ke kp n V (fX4_turn dit dsz size need lifted licked morning tally kinds places lengths downs covers x1) (fX5_turn deeds now past x1) := by
  obtain ⟨hw, hs, ha, hk, hd, rfl, hn6⟩ := h.get
  rcases spl x1 (k := n) (by omega) with ⟨i, hi, rfl⟩ | hx
  rotate_left
  · have e4 : fX3_has size x1 = some 0 := by rw [hs.1]; exact c_hasN hx
    exact DD.same h (by unfold fX4_turn; rw [e4, bd1_s, if_pos rfl]) (by unfold fX5_turn; rw [m_isPeel0 ha hw hx, bd1_s, if_pos rfl])
  have e4 : fX3_has size (nI i) = some 1 := by rw [hs.1]; exact c_has hn6 hi
  by_cases k40 : k = 40
  · have e40 : nI k = 40 := by rw [k40]; rfl
    exact DD.same h (by unfold fX4_turn; rw [e4, bd1_s, if_neg one_ne, c_hasRoom hk hd, if_pos k40, bd1_s, if_pos rfl]) (by unfold fX5_turn; rw [m_isPeel1 ha hw hi, bd1_s, if_neg one_ne, if_pos e40])
  have e40 : ¬ nI k = 40 := d40 hk k40
  obtain ⟨lf, lk, mo, ta, pl, dn, cv, ea, hS⟩ := c_act hs hw (k20 hk) (what := 2) (i := i) (place := 0) (by decide) hi (by decide) (dit := dit) (by omega) hd
  have ea : fX4_act dit dsz size need lifted licked morning tally kinds places lengths downs covers 2 (nI i) 0 = _ := ea
  have hw' := spV_WF (what := 2) (i := i) (place := 0) hw hi (by decide)
  have edn := c_downOf hS hw' hi
  obtain ⟨past', ec, hpp⟩ := m_changes (past := past) ha hw (k := k) (by omega) hi (o := 3) (Or.inl rfl)
  have ec : fX5_changes (nI k) now past (nI i) 3 = some (nI (1 - rpV q V k (5 + 3 + 5 * i)), nI (k + 1), upd now (8 + 5 * i) (nI (1 - dnV (rpV q V k) i)), past') := ec
  have esp : spV 2 i 0 (rpV q V k) = upN (rpV q V k) (8 + 5 * i) (1 - dnV (rpV q V k) i) := by unfold spV; rw [if_neg (by decide), if_neg (by decide), if_pos rfl]
  have er : dnV (spV 2 i 0 (rpV q V k)) i = 1 - rpV q V k (5 + 3 + 5 * i) := by
    rw [esp]
    unfold dnV
    rw [upN_s]
  exact DD.act h (by omega) (by decide) hi (by decide) hS (by rw [esp]; exact ha.up _ _) hpp (by unfold fX4_turn; rw [e4, bd1_s, if_neg one_ne, c_hasRoom hk hd, if_neg k40, bd1_s, if_neg one_ne, ea, bd9_s, edn, bd1_s, er]) (by unfold fX5_turn; rw [m_isPeel1 ha hw hi, bd1_s, if_neg one_ne, if_neg e40, ec, bd4_s])
theorem fl_lift (h : RD Sst (fun u => SL size need lifted licked morning tally kinds places lengths downs covers u n) dsz dit deeds now past kd ke kp n V q k) (x1 : Int32) : DD Sst size need kinds lengths kd ke kp n V (fX4_lift dit dsz size need lifted licked morning tally kinds places lengths downs covers x1) (fX5_lift deeds now past x1) := by
  obtain ⟨hw, hs, ha, hk, hd, rfl, hn6⟩ := h.get
  rcases spl x1 (k := n) (by omega) with ⟨i, hi, rfl⟩ | hx
  rotate_left
  · have e4 : fX3_has size x1 = some 0 := by rw [hs.1]; exact c_hasN hx
    exact DD.same h (by unfold fX4_lift; rw [e4, bd1_s, if_pos rfl]) (by unfold fX5_lift; rw [m_isPeel0 ha hw hx, bd1_s, if_pos rfl])
  have e4 : fX3_has size (nI i) = some 1 := by rw [hs.1]; exact c_has hn6 hi
  by_cases k40 : k = 40
  · have e40 : nI k = 40 := by rw [k40]; rfl
    exact DD.same h (by unfold fX4_lift; rw [e4, bd1_s, if_neg one_ne, c_hasRoom hk hd, if_pos k40, bd1_s, if_pos rfl]) (by unfold fX5_lift; rw [m_isPeel1 ha hw hi, bd1_s, if_neg one_ne, if_pos e40])
  have e40 : ¬ nI k = 40 := d40 hk k40
  obtain ⟨lf, lk, mo, ta, pl, dn, cv, ea, hS⟩ := c_act hs hw (k20 hk) (what := 3) (i := i) (place := 0) (by decide) hi (by decide) (dit := dit) (by omega) hd
  have ea : fX4_act dit dsz size need lifted licked morning tally kinds places lengths downs covers 3 (nI i) 0 = _ := ea
  have hw' := spV_WF (what := 3) (i := i) (place := 0) hw hi (by decide)
  have h8' : ∀ j, j < n → lfV (spV 3 i 0 (rpV q V k)) j < 2 := fun j hj => (hw'.2.2.2.2.2.2.2 j hj).2.2.2.2
  have hl64 : lfN (spV 3 i 0 (rpV q V k)) n < 2 ^ 6 := Nat.lt_of_lt_of_le (lfN_lt h8') (Nat.pow_le_pow_right (by decide) hn6)
  have ebit : fX4_bit lf (nI i) = some (nI (lfV (spV 3 i 0 (rpV q V k)) i)) := by
    unfold fX4_bit
    rw [hS.2.2.1, n_bit (by omega) (by omega), lfN_bit h8' i hi]
  obtain ⟨past', ec, hpp⟩ := m_changes (past := past) ha hw (k := k) (by omega) hi (o := 4) (Or.inr rfl)
  have ec : fX5_changes (nI k) now past (nI i) 4 = some (nI (1 - rpV q V k (5 + 4 + 5 * i)), nI (k + 1), upd now (9 + 5 * i) (nI (1 - lfV (rpV q V k) i)), past') := ec
  have esp : spV 3 i 0 (rpV q V k) = upN (rpV q V k) (9 + 5 * i) (1 - lfV (rpV q V k) i) := by unfold spV; rw [if_neg (by decide), if_neg (by decide), if_neg (by decide), if_pos rfl]
  have er : lfV (spV 3 i 0 (rpV q V k)) i = 1 - rpV q V k (5 + 4 + 5 * i) := by
    rw [esp]
    unfold lfV
    rw [upN_s]
  exact DD.act h (by omega) (by decide) hi (by decide) hS (by rw [esp]; exact ha.up _ _) hpp (by unfold fX4_lift; rw [e4, bd1_s, if_neg one_ne, c_hasRoom hk hd, if_neg k40, bd1_s, if_neg one_ne, ea, bd9_s, ebit, bd1_s, er]) (by unfold fX5_lift; rw [m_isPeel1 ha hw hi, bd1_s, if_neg one_ne, if_neg e40, ec, bd4_s])
theorem m_mayLick {now : Nat → Int32} {v : Nat → Nat} {n B p : Nat} (ha : AR now v) (hw : WF v n B) (hp : p < 16) : fX5_mayLick now (nI p) = some (if v 4 / 2 ^ p % 2 = 1 ∨ pcN (v 4) < 8 then 1 else 0) := by
  have h4 := hw.2.2.2.1
  have hpc := pcN_le (v 4)
  unfold fX5_mayLick
  rw [r35_4 ha, bd1_s, m_has (by omega) (by omega), bd1_s, bd1_s, ones_n (by omega), bd1_s]
  by_cases c : v 4 / 2 ^ p % 2 = 1
  · rw [if_neg (fun z => by have := (nI_eq0 (by omega)).mp z; omega), if_pos (Or.inl c)]; rfl
  · rw [if_pos ((nI_eq0 (by omega)).mpr (by omega))]
    by_cases c8 : pcN (v 4) < 8
    · have : ¬ (8 : Int32) ≤ nI (pcN (v 4)) := nI_ge (a := pcN (v 4)) (b := 8) c8 (by decide)
      rw [if_neg this, if_pos (Or.inr c8)]; rfl
    · have : (8 : Int32) ≤ nI (pcN (v 4)) := nI_le (a := 8) (by omega) (by omega)
      rw [if_pos this, if_neg (by omega)]
theorem fl_lick (h : RD Sst (fun u => SL size need lifted licked morning tally kinds places lengths downs covers u n) dsz dit deeds now past kd ke kp n V q k) (x1 : Int32) : DD Sst size need kinds lengths kd ke kp n V (fX4_lick dit dsz size need lifted licked morning tally kinds places lengths downs covers x1) (fX5_lick deeds now past x1) := by
  obtain ⟨hw, hs, ha, hk, hd, rfl, hn6⟩ := h.get
  rcases spl x1 (k := 16) (by decide) with ⟨p, hp, rfl⟩ | hx
  rotate_left
  · exact DD.same h (by unfold fX4_lick; rw [(in16_0 hx).1, bd1_s, if_pos rfl]) (by unfold fX5_lick; rw [(in16_0 hx).2, bd1_s, if_pos rfl])
  have hany := m_isAny ha hw
  by_cases n0 : n = 0
  · subst n0
    have c0 : size = 0 := hs.1
    exact DD.same h (by unfold fX4_lick; rw [(in16 p hp).1, bd1_s, if_neg one_ne, if_pos c0]) (by unfold fX5_lick; rw [(in16 p hp).2, bd1_s, if_neg one_ne, hany, if_pos rfl, bd1_s, if_pos rfl])
  have c0 : ¬ size = 0 := by rw [hs.1]; exact nI_ne0 (by omega) (by omega)
  have h4 := hw.2.2.2.1
  have ecl : fX3_canLick licked (nI p) = some (if rpV q V k 4 / 2 ^ p % 2 = 1 ∨ pcN (rpV q V k 4) < 8 then 1 else 0) := by rw [hs.2.2.2.1]; exact c_canLick h4 hp
  have eml := m_mayLick ha hw hp
  by_cases cl : rpV q V k 4 / 2 ^ p % 2 = 1 ∨ pcN (rpV q V k 4) < 8
  rotate_left
  · rw [if_neg cl] at ecl eml
    exact DD.same h (by unfold fX4_lick; rw [(in16 p hp).1, bd1_s, if_neg one_ne, if_neg c0, ecl, bd1_s, if_pos rfl]) (by unfold fX5_lick; rw [(in16 p hp).2, bd1_s, if_neg one_ne, hany, if_neg n0, bd1_s, if_neg one_ne, eml, bd1_s, if_pos rfl])
  rw [if_pos cl] at ecl eml
  by_cases k40 : k = 40
  · have e40 : nI k = 40 := by rw [k40]; rfl
    exact DD.same h (by unfold fX4_lick; rw [(in16 p hp).1, bd1_s, if_neg one_ne, if_neg c0, ecl, bd1_s, if_neg one_ne, c_hasRoom hk hd, if_pos k40, bd1_s, if_pos rfl]) (by unfold fX5_lick; rw [(in16 p hp).2, bd1_s, if_neg one_ne, hany, if_neg n0, bd1_s, if_neg one_ne, eml, bd1_s, if_neg one_ne, if_pos e40])
  have e40 : ¬ nI k = 40 := d40 hk k40
  obtain ⟨lf, lk, mo, ta, pl, dn, cv, ea, hS⟩ := c_act hs hw (k20 hk) (what := 4) (i := 0) (place := p) (by decide) (by omega) hp (dit := dit) (by omega) hd
  have ea : fX4_act dit dsz size need lifted licked morning tally kinds places lengths downs covers 4 0 (nI p) = _ := ea
  obtain ⟨past', ep, hpp⟩ := m_notes (now := now) (past := past) (k := k) (by omega)
  have esp : spV 4 0 p (rpV q V k) = upN (rpV q V k) 4 (rpV q V k 4 ^^^ 2 ^ p) := by unfold spV; rw [if_neg (by decide), if_neg (by decide), if_neg (by decide), if_neg (by decide), if_pos cl]
  have hx : rpV q V k 4 ^^^ 2 ^ p < 65536 := Nat.xor_lt_two_pow (n := 16) h4 (pow16 p hp)
  have elk : lk = nI (rpV q V k 4 ^^^ 2 ^ p) := by rw [hS.2.2.2.1, esp, upN_s]
  have ebit : fX4_bit lk (nI p) = some (nI ((rpV q V k 4 ^^^ 2 ^ p) / 2 ^ p % 2)) := by
    unfold fX4_bit
    rw [elk, n_bit (by omega) (by omega)]
  have e5x : nI (rpV q V k 4) ^^^ ((1 : Int32) <<< (nI p &&& 31)) = nI (rpV q V k 4 ^^^ 2 ^ p) := by rw [sh1 hp, n_xor]
  have es4 : ∀ x, ast 35 now 4 x = some (upd now 4 x) := fun x => s35 (j := 4) (by decide)
  have er4 : ∀ x, ald 35 (upd now 4 x) 4 = some x := fun x => by
    have := ald_nI (f := upd now 4 x) (n := 35) (j := 4) (by decide) (by decide)
    rw [upd_s] at this
    exact this
  exact DD.act h (by omega) (by decide) (by omega) hp hS (by rw [esp]; exact ha.up _ _) hpp (by unfold fX4_lick; rw [(in16 p hp).1, bd1_s, if_neg one_ne, if_neg c0, ecl, bd1_s, if_neg one_ne, c_hasRoom hk hd, if_neg k40, bd1_s, if_neg one_ne, ea, bd9_s, ebit, bd1_s]) (by unfold fX5_lick; rw [(in16 p hp).2, bd1_s, if_neg one_ne, hany, if_neg n0, bd1_s, if_neg one_ne, eml, bd1_s, if_neg one_ne, if_neg e40, ep, bd2_s, r35_4 ha, bd1_s, e5x, es4, bd1_s, er4, bd1_s, n_bit (by omega) (by omega)])
end
theorem step_shift : Step_shift Rel := by
  intro c d h x1 x2
  obtain ⟨hA, hB, hC, n, V, q, k, hD⟩ := h
  obtain ⟨r, dit, dsz, lf, lk, mo, ta, pl, dn, cv, deeds, now, past, q', k', e4, e5, hD'⟩ := fl_shift hD.rd x1 x2
  exact go2 (map_some e4) (map_some e5) rfl ⟨hA, hB, hC, n, V, q', k', hD'⟩
theorem step_turn : Step_turn Rel := by
  intro c d h x1
  obtain ⟨hA, hB, hC, n, V, q, k, hD⟩ := h
  obtain ⟨r, dit, dsz, lf, lk, mo, ta, pl, dn, cv, deeds, now, past, q', k', e4, e5, hD'⟩ := fl_turn hD.rd x1
  exact go2 (map_some e4) (map_some e5) rfl ⟨hA, hB, hC, n, V, q', k', hD'⟩
theorem step_lift : Step_lift Rel := by
  intro c d h x1
  obtain ⟨hA, hB, hC, n, V, q, k, hD⟩ := h
  obtain ⟨r, dit, dsz, lf, lk, mo, ta, pl, dn, cv, deeds, now, past, q', k', e4, e5, hD'⟩ := fl_lift hD.rd x1
  exact go2 (map_some e4) (map_some e5) rfl ⟨hA, hB, hC, n, V, q', k', hD'⟩
theorem step_lick : Step_lick Rel := by
  intro c d h x1
  obtain ⟨hA, hB, hC, n, V, q, k, hD⟩ := h
  obtain ⟨r, dit, dsz, lf, lk, mo, ta, pl, dn, cv, deeds, now, past, q', k', e4, e5, hD'⟩ := fl_lick hD.rd x1
  exact go2 (map_some e4) (map_some e5) rfl ⟨hA, hB, hC, n, V, q', k', hD'⟩
