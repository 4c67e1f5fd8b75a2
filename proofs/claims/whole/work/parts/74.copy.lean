/-! ===== pure: copy ===== -/
theorem acp_n {N sp dp n : Nat} {f : Nat → Int32} (hN : N < 2 ^ 31) (h1 : sp + n ≤ N) (h2 : dp + n ≤ N) : acp N f (nI sp) (nI dp) (nI n) = some (va_cpy f f sp dp n) := by
  unfold acp
  rw [nI_clamp (n := sp) (by omega), nI_clamp (n := dp) (by omega), nI_clamp (n := n) (by omega), if_neg]
  intro q
  rcases q with q | q | q | q | q
  · exact nI_pos (by omega) q
  · exact nI_pos (by omega) q
  · exact nI_pos (by omega) q
  · omega
  · omega
theorem step_copy : Step_copy Rel := by
  intro c d h x1 x2 x3 x4 x5
  obtain ⟨⟨a1, a2, a3, a4, a5⟩, hB, hC, hD⟩ := id h
  rcases spl x1 (k := 6) (by decide) with ⟨r, hr, rfl⟩ | hout
  rotate_left
  · exact go2 (map_some (by unfold fX4_copy; rw [(row_out hout).1, bd1_s, if_pos rfl])) (map_some (by unfold fX5_copy; rw [(row_out hout).2, bd1_s, if_pos rfl])) (by rfl) h
  rcases spl x3 (k := 6) (by decide) with ⟨t, ht, rfl⟩ | hout
  rotate_left
  · exact go2 (map_some (by unfold fX4_copy; rw [(row_in r hr).1, bd1_s, if_neg one_ne, (row_out hout).1, bd1_s, if_pos rfl])) (map_some (by unfold fX5_copy; rw [(row_in r hr).2, bd1_s, if_neg one_ne, (row_out hout).2, bd1_s, if_pos rfl])) (by rfl) h
  by_cases h0 : x5 < 0
  · have c2 : ¬ 0 ≤ x5 := by rw [Int32.not_le]; exact h0
    refine go2 (map_some (by unfold fX4_copy; rw [(row_in r hr).1, bd1_s, if_neg one_ne, (row_in t ht).1, bd1_s, if_neg one_ne, if_neg c2, fd4_5, bd3_s])) (map_some (by unfold fX5_copy; rw [(row_in r hr).2, bd1_s, if_neg one_ne, (row_in t ht).2, bd1_s, if_neg one_ne, if_neg c2, fd5_5, bd3_s])) (by rfl) ?_
    exact ⟨⟨rfl, a2, a3, a4, upd_eq6 a5 (by decide)⟩, hB, hC, hD⟩
  obtain ⟨n, hn, rfl⟩ := nI_of h0
  have c2 : 0 ≤ nI n := nI_pos' hn
  rcases hB r hr with ⟨s1, s2⟩ | ⟨k, hk, s1, s2, hq⟩
  · refine go2 (map_some (by unfold fX4_copy fX4_copy_j49; rw [(row_in r hr).1, bd1_s, if_neg one_ne, (row_in t ht).1, bd1_s, if_neg one_ne, if_pos c2, s_miss1 (by decide) hr s1, bd1_s, if_neg one_ne, fd4_1, bd3_s])) (map_some (by unfold fX5_copy fX5_copy_j49; rw [(row_in r hr).2, bd1_s, if_neg one_ne, (row_in t ht).2, bd1_s, if_neg one_ne, if_pos c2, a6 hr, bd1_s, if_pos s2, fd5_1, bd3_s])) (by rfl) ?_
    exact ⟨⟨rfl, a2, a3, a4, upd_eq6 a5 (by decide)⟩, hB, hC, hD⟩
  have c9 : ¬ nI k = -9 := (m1_ne (by omega)).2
  have v2 : ald 6 (ms_rowSize d) (nI r) = some (nI k) := by rw [a6 hr]; exact congrArg some s2
  rcases hB t ht with ⟨p1, p2⟩ | ⟨k', hk', p1, p2, hq'⟩
  · have w2 : ald 6 (ms_rowSize d) (nI t) = some (-9) := by rw [a6 ht]; exact congrArg some p2
    refine go2 (map_some (by unfold fX4_copy fX4_copy_j49; rw [(row_in r hr).1, bd1_s, if_neg one_ne, (row_in t ht).1, bd1_s, if_neg one_ne, if_pos c2, s_miss0 (by decide) hr (by omega) s1, bd1_s, if_pos rfl, s_miss1 (by decide) ht p1, bd1_s, if_neg one_ne, fd4_1, bd3_s])) (map_some (by unfold fX5_copy fX5_copy_j49; rw [(row_in r hr).2, bd1_s, if_neg one_ne, (row_in t ht).2, bd1_s, if_neg one_ne, if_pos c2, v2, bd1_s, if_neg c9, w2, bd1_s, if_pos rfl, fd5_1, bd3_s])) (by rfl) ?_
    exact ⟨⟨rfl, a2, a3, a4, upd_eq6 a5 (by decide)⟩, hB, hC, hD⟩
  have c9' : ¬ nI k' = -9 := (m1_ne (by omega)).2
  have w2 : ald 6 (ms_rowSize d) (nI t) = some (nI k') := by rw [a6 ht]; exact congrArg some p2
  have m0 := s_miss0 (m := 6) (sizes := cs_r_sizes c) (by decide) hr (by omega) s1
  have m0' := s_miss0 (m := 6) (sizes := cs_r_sizes c) (by decide) ht (by omega) p1
  rcases run_n (sizes := cs_r_sizes c) (rsz := ms_rowSize d) (x := x2) hr hk s1 s2 hn with ⟨i, hi, rfl, r4, r5⟩ | ⟨r4, r5⟩
  rotate_left
  · refine go2 (map_some (by unfold fX4_copy fX4_copy_j84; rw [(row_in r hr).1, bd1_s, if_neg one_ne, (row_in t ht).1, bd1_s, if_neg one_ne, if_pos c2, m0, bd1_s, if_pos rfl, m0', bd1_s, if_pos rfl, r4, bd1_s, if_pos rfl, fd4_2, bd3_s])) (map_some (by unfold fX5_copy fX5_copy_j78; rw [(row_in r hr).2, bd1_s, if_neg one_ne, (row_in t ht).2, bd1_s, if_neg one_ne, if_pos c2, v2, bd1_s, if_neg c9, w2, bd1_s, if_neg c9', r5, bd1_s, if_pos rfl, fd5_2, bd3_s])) (by rfl) ?_
    exact ⟨⟨rfl, a2, a3, a4, upd_eq6 a5 (by decide)⟩, hB, hC, hD⟩
  rcases run_n (sizes := cs_r_sizes c) (rsz := ms_rowSize d) (x := x4) ht hk' p1 p2 hn with ⟨j, hj, rfl, q4, q5⟩ | ⟨q4, q5⟩
  rotate_left
  · refine go2 (map_some (by unfold fX4_copy fX4_copy_j84; rw [(row_in r hr).1, bd1_s, if_neg one_ne, (row_in t ht).1, bd1_s, if_neg one_ne, if_pos c2, m0, bd1_s, if_pos rfl, m0', bd1_s, if_pos rfl, r4, bd1_s, if_neg one_ne, q4, bd1_s, if_pos rfl, fd4_2, bd3_s])) (map_some (by unfold fX5_copy fX5_copy_j78; rw [(row_in r hr).2, bd1_s, if_neg one_ne, (row_in t ht).2, bd1_s, if_neg one_ne, if_pos c2, v2, bd1_s, if_neg c9, w2, bd1_s, if_neg c9', r5, bd1_s, if_neg one_ne, q5, bd1_s, if_pos rfl, fd5_2, bd3_s])) (by rfl) ?_
    exact ⟨⟨rfl, a2, a3, a4, upd_eq6 a5 (by decide)⟩, hB, hC, hD⟩
  obtain ⟨sp, es, hsp⟩ := m_copy1 (rows := ms_rows d) hr (i := i) (n := n) (by omega) (ms_spare d) n 0 FU (ms_spare d) (fun j hj => absurd hj (Nat.not_lt_zero j)) (by omega) (Nat.lt_of_le_of_lt (show n ≤ 40 by omega) (by decide))
  obtain ⟨rw', er, hrw⟩ := m_copy2 (spare := sp) (rows0 := ms_rows d) ht (i := j) (n := n) (by omega) n 0 FU (ms_rows d) (fun x => by rw [if_neg (by omega)]) (by omega) (Nat.lt_of_le_of_lt (show n ≤ 40 by omega) (by decide))
  have es : fX5_copy_L87 (ms_rows d) (nI r) (nI i) (nI n) FU (ms_spare d) 0 = some sp := es
  have er : fX5_copy_L124 sp (nI t) (nI j) (nI n) FU (ms_rows d) 0 = some rw' := er
  have ix : ∀ a b : Nat, nI a * 40 + nI b = nI (40 * a + b) := fun a b => by
    show nI a * nI 40 + nI b = _
    rw [nI_mul, nI_add, Nat.mul_comm]
  have ec : fX2_copyRun 240 6 40 (cs_r_items c) (cs_r_sizes c) (nI r) (nI i) (nI t) (nI j) (nI n) = some (va_cpy (cs_r_items c) (cs_r_items c) (40 * r + i) (40 * t + j) n) := by
    unfold fX2_copyRun
    rw [r4, bd1_s, if_neg one_ne, q4, bd1_s, if_neg one_ne, ix, ix, acp_n (by decide) (by omega) (by omega), bd1_s]
  refine go2 (map_some (by unfold fX4_copy; rw [(row_in r hr).1, bd1_s, if_neg one_ne, (row_in t ht).1, bd1_s, if_neg one_ne, if_pos c2, m0, bd1_s, if_pos rfl, m0', bd1_s, if_pos rfl, r4, bd1_s, if_neg one_ne, q4, bd1_s, if_neg one_ne, ec, bd1_s])) (map_some (by unfold fX5_copy; rw [(row_in r hr).2, bd1_s, if_neg one_ne, (row_in t ht).2, bd1_s, if_neg one_ne, if_pos c2, v2, bd1_s, if_neg c9, w2, bd1_s, if_neg c9', r5, bd1_s, if_neg one_ne, q5, bd1_s, if_neg one_ne, es, bd1_s, er, bd1_s])) (by rfl) ?_
  refine ⟨⟨a1, a2, a3, a4, a5⟩, ?_, hC, hD⟩
  show RW 6 40 (fun _ => True) (cs_r_sizes c) (va_cpy (cs_r_items c) (cs_r_items c) (40 * r + i) (40 * t + j) n) (ms_rowSize d) rw'
  intro r' hr'
  rcases hB r' hr' with z | ⟨k2, hk2, z1, z2, hz⟩
  · exact Or.inl z
  · refine Or.inr ⟨k2, hk2, z1, z2, fun y hy => ⟨?_, trivial⟩⟩
    rw [hrw]
    unfold va_cpy
    by_cases cc : 40 * t + j ≤ 40 * r' + y ∧ 40 * r' + y < 40 * t + j + n
    · rw [if_pos cc, if_pos cc, hsp _ (by omega)]
      have := (hq (i + (40 * r' + y - (40 * t + j))) (by omega)).1
      rw [← Nat.add_assoc] at this
      exact this
    · rw [if_neg cc, if_neg cc]
      exact (hz y hy).1
