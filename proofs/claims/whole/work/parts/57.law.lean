/-! ===== printed by wip/whole/law.py: the law's loop and its start ===== -/
theorem law_6 : ∀ L, L ≤ 384 → (Int32.ofNat L - 6).toInt = (L : Int) - 6 := by
  intro L h
  have : ∀ L : Fin 385, (Int32.ofNat L.val - 6).toInt = (L.val : Int) - 6 := by decide +kernel
  exact this ⟨L, by omega⟩
theorem law_lt (L : Nat) (h : L ≤ 384) : Int32.ofNat L - 6 < nI L := by
  rw [Int32.lt_iff_toInt_lt, law_6 L h, nI_toInt (by omega)]
  omega
theorem law_le {i L : Nat} (h : L ≤ 384) (hi : i ≤ L) (q : ¬ Int32.ofNat L - 6 < nI i) : i + 6 ≤ L := by
  rw [Int32.lt_iff_toInt_lt, law_6 L h, nI_toInt (by omega)] at q
  omega
theorem law_in {i k L : Nat} (h : i + k < L) (hL : L < 2 ^ 31) : vp_in (nI i + nI k) L := by
  rw [nI_add]
  exact vp_in_nI h hL
def AllSteps (Rel : CS → MS → Prop) : Prop := Step_row Rel ∧ Step_lay Rel ∧ Step_at Rel ∧ Step_tear Rel ∧ Step_copy Rel ∧ Step_mean Rel ∧ Step_text Rel ∧ Step_put Rel ∧ Step_fault Rel ∧ Step_slice Rel ∧ Step_peel Rel ∧ Step_mark Rel ∧ Step_morning Rel ∧ Step_shift Rel ∧ Step_turn Rel ∧ Step_lift Rel ∧ Step_lick Rel ∧ Step_undo Rel ∧ Step_keep Rel ∧ Step_on Rel ∧ Step_covers Rel ∧ Step_covered Rel ∧ Step_weighs Rel ∧ Step_reads Rel ∧ Step_first Rel ∧ Step_found Rel ∧ Step_best Rel ∧ Step_gap Rel ∧ Step_sure Rel ∧ Step_places Rel ∧ Step_kinds Rel ∧ Step_next Rel ∧ Step_sets Rel ∧ Step_surely Rel ∧ Step_duel Rel ∧ Step_odds Rel ∧ Step_mid Rel ∧ Step_lots Rel ∧ Step_asked Rel ∧ Step_upper Rel ∧ Step_lower Rel ∧ Step_count Rel ∧ Step_finding Rel ∧ Step_findings Rel ∧ Step_digest Rel
def c00 : CS := (0, 0, 0, 1, (fun _ => 0), szs6, (fun _ => 0), szs4, (fun _ => 0), upd szs4 3 0, 0, 0, 0, 0, 0, 0, (fun _ => 0), (fun _ => 0), (fun _ => 0), (fun _ => 0), (fun _ => 0), 0, 0, 0, 0, 0, 0, (fun _ => 0), (fun _ => 0), (fun _ => 0), (fun _ => 0), (fun _ => 0), 0, 0, 0, 0, 0, 0, (fun _ => 0), (fun _ => 0), (fun _ => 0), (fun _ => 0), (fun _ => 0), 0, 0, 0, 0, 0, 0, (fun _ => 0), (fun _ => 0))
def d00 : MS := (0, 0, 0, 0, 1, 0, 0, nos6, (fun _ => 0), nos4, (fun _ => 0), (fun _ => 0), (fun _ => 0), (fun _ => 0), (fun _ => 0), (fun _ => 0), (fun _ => 0), (fun _ => 0), nos3, (fun _ => 0), (fun _ => 0))
set_option maxHeartbeats 4000000 in
set_option maxRecDepth 100000 in
/-- THE LAW'S LOOP, over any relation that every step keeps -/
theorem law_loop {p : Program} {l : Launch} {e : Env} {s : State} {m : MethodId} {below : List Frame} {meth : Method} {c : Code} {D : va_G} {cI : ClassId} {tL b L : Nat} {xs : Nat → Int32} (hL : L ≤ 384) {Rel : CS → MS → Prop} (hs : AllSteps Rel) (hc : Cx p s m #[Value.ref b] c D cI tL (fun q => s.heap.size ≤ q) code 4 RL) (hr0 : meth.sig.returnType = ret) (hlocks : meth.locks = false) (hX : va_X b L xs s s.heap) (hbl : b < s.heap.size) (ad bd : Nat → Nat) :
    ∀ (n i : Nat) (x3 : Int32), L ≤ i + n → i ≤ L → x3 = nI i → ∀ (c0 : CS) (d0 : MS), Rel c0 d0 → ∀ (ls : Array Slot) (H : Heap) (locs : List Loc), lv_has ls 4 [(0, .ref b), (1, .ref (ad 0)), (2, .ref (bd 0)), (3, .int x3)] → St D (fun q => s.heap.size ≤ q) s (w4 cI ad c0 ++ w5 cI bd d0) H locs → W p l e room_1 s m #[Value.ref b] below meth c H locs 47 9681 (lw_Z below #[Value.ref b] s) (F0 m 18 ls []) := by
  have hbA : ¬ s.heap.size ≤ b := Nat.not_le.mpr hbl
  obtain ⟨hx, hb, hml, hown, hts, hK, hA, hz⟩ := id hc
  have hend : ∀ (ls : Array Slot) (H : Heap) (locs : List Loc) (c0 : CS) (d0 : MS), St D (fun q => s.heap.size ≤ q) s (w4 cI ad c0 ++ w5 cI bd d0) H locs → W p l e room_1 s m #[Value.ref b] below meth c H locs 47 9681 (lw_Z below #[Value.ref b] s) (F0 m 1422 ls []) := by
    intro ls H locs c0 d0 hG
    refine lv_iconst (v := 1) hx hb dL_law_1422 (by decide) ?_
    refine va_forget (fun q hq => hG.2.2.2.2 q hq) ?_
    exact lw_ret hx hb hr0 hlocks dL_law_1423
  intro n
  induction n with
  | zero =>
    intro i x3 h1 h2 ex c0 d0 hr ls H locs hl hG
    have hi : i = L := by omega
    refine lv_iload_n hx hb dL_law_18 rfl (lv_at hl 3 rfl) ?_
    refine lv_aload_n hx hb dL_law_19 rfl (lv_at hl 0 rfl) ?_
    refine va_slen hx hb hX hbl hbA hG.2.2 dL_law_20 ?_
    refine lv_bipush (v := 6) hx hb dL_law_21 (by decide) ?_
    refine lv_isub hx hb dL_law_23 ?_
    refine lv_icmp_gt (tgt := 1422) hx hb dL_law_24 (by decide) (fun c_10 => ?_) (fun c_10 => ?_)
    · exact hend ls H locs c0 d0 hG
    · refine absurd ?_ c_10
      rw [ex, hi]
      exact law_lt L (by omega)
  | succ n ih =>
    intro i x3 h1 h2 ex c0 d0 hr ls H locs hl hG
    refine lv_iload_n hx hb dL_law_18 rfl (lv_at hl 3 rfl) ?_
    refine lv_aload_n hx hb dL_law_19 rfl (lv_at hl 0 rfl) ?_
    refine va_slen hx hb hX hbl hbA hG.2.2 dL_law_20 ?_
    refine lv_bipush (v := 6) hx hb dL_law_21 (by decide) ?_
    refine lv_isub hx hb dL_law_23 ?_
    refine lv_icmp_gt (tgt := 1422) hx hb dL_law_24 (by decide) (fun c_10 => ?_) (fun c_10 => ?_)
    · exact hend ls H locs c0 d0 hG
    · have h6 : i + 6 ≤ L := law_le (by omega) (by omega) (by rw [ex] at c_10; exact c_10)
      have h0 : vp_in x3 L := by rw [ex]; exact vp_in_nI (by omega) (by omega)
      have h1' : vp_in (x3 + 1) L := by rw [ex]; exact law_in (k := 1) (by omega) (by omega)
      have h2' : vp_in (x3 + 2) L := by rw [ex]; exact law_in (k := 2) (by omega) (by omega)
      have h3' : vp_in (x3 + 3) L := by rw [ex]; exact law_in (k := 3) (by omega) (by omega)
      have h4' : vp_in (x3 + 4) L := by rw [ex]; exact law_in (k := 4) (by omega) (by omega)
      have h5' : vp_in (x3 + 5) L := by rw [ex]; exact law_in (k := 5) (by omega) (by omega)
      have hk : ∀ (c1 : CS) (d1 : MS), Rel c1 d1 → ∀ (ls : Array Slot) (H : Heap) (locs : List Loc), lv_has ls 4 [(0, .ref b), (1, .ref (ad 0)), (2, .ref (bd 0)), (3, .int x3)] → St D (fun q => s.heap.size ≤ q) s (w4 cI ad c1 ++ w5 cI bd d1) H locs → W p l e room_1 s m #[Value.ref b] below meth c H locs 47 9681 (lw_Z below #[Value.ref b] s) (F0 m 1416 ls []) := by
        intro c1 d1 hr1 ls H locs hl hG
        refine lv_iinc (v := (x3 + 6)) (lv' := [(3, .int (x3 + 6)), (0, .ref b), (1, .ref (ad 0)), (2, .ref (bd 0))]) hx hb dL_law_1416 hl (k := 3) rfl rfl (by decide) rfl (fun ls hl => ?_)
        refine lv_goto (tgt := 18) hx hb dL_law_1419 (by decide) ?_
        exact ih (i + 6) (x3 + 6) (by omega) h6 (by rw [ex]; exact nI_add i 6) c1 d1 hr1 ls H locs (lv_sub hl [1, 2, 3, 0] rfl) hG
      clear ih
      refine lv_aload_n hx hb dL_law_27 rfl (lv_at hl 0 rfl) ?_
      refine lv_iload_n hx hb dL_law_28 rfl (lv_at hl 3 rfl) ?_
      refine va_sld hx hb hX hbl hbA hG.2.2 h0 dL_law_29 ?_
      refine lv_bipush (v := 63) hx hb dL_law_30 (by decide) ?_
      refine lv_iand hx hb dL_law_32 ?_
      generalize (xs x3.toNatClampNeg &&& 63) = sel
      by_cases c_0 : sel = 0
      · refine x_swG (tgt := 228) hx hb dL_law_33 c_0 (by decide) (by decide) rfl (by decide) ?_
        exact lc_0 hs.1 hc hX hbl hbA ad bd x3 h1' h2' h3' h4' h5' c0 d0 hr (fun c1 d1 hr1 ls H locs hl hG => hk c1 d1 hr1 ls H locs hl hG) ls H locs hl hG
      by_cases c_1 : sel = 1
      · refine x_swG (tgt := 261) hx hb dL_law_33 c_1 (by decide) (by decide) rfl (by decide) ?_
        exact lc_1 hs.2.1 hc hX hbl hbA ad bd x3 h1' h2' h3' h4' h5' c0 d0 hr (fun c1 d1 hr1 ls H locs hl hG => hk c1 d1 hr1 ls H locs hl hG) ls H locs hl hG
      by_cases c_2 : sel = 2
      · refine x_swG (tgt := 304) hx hb dL_law_33 c_2 (by decide) (by decide) rfl (by decide) ?_
        exact lc_2 hs.2.2.1 hc hX hbl hbA ad bd x3 h1' h2' h3' h4' h5' c0 d0 hr (fun c1 d1 hr1 ls H locs hl hG => hk c1 d1 hr1 ls H locs hl hG) ls H locs hl hG
      by_cases c_3 : sel = 3
      · refine x_swG (tgt := 337) hx hb dL_law_33 c_3 (by decide) (by decide) rfl (by decide) ?_
        exact lc_3 hs.2.2.2.1 hc hX hbl hbA ad bd x3 h1' h2' h3' h4' h5' c0 d0 hr (fun c1 d1 hr1 ls H locs hl hG => hk c1 d1 hr1 ls H locs hl hG) ls H locs hl hG
      by_cases c_4 : sel = 4
      · refine x_swG (tgt := 360) hx hb dL_law_33 c_4 (by decide) (by decide) rfl (by decide) ?_
        exact lc_4 hs.2.2.2.2.1 hc hX hbl hbA ad bd x3 h1' h2' h3' h4' h5' c0 d0 hr (fun c1 d1 hr1 ls H locs hl hG => hk c1 d1 hr1 ls H locs hl hG) ls H locs hl hG
      by_cases c_5 : sel = 5
      · refine x_swG (tgt := 423) hx hb dL_law_33 c_5 (by decide) (by decide) rfl (by decide) ?_
        exact lc_5 hs.2.2.2.2.2.1 hc hX hbl hbA ad bd x3 h1' h2' h3' h4' h5' c0 d0 hr (fun c1 d1 hr1 ls H locs hl hG => hk c1 d1 hr1 ls H locs hl hG) ls H locs hl hG
      by_cases c_6 : sel = 6
      · refine x_swG (tgt := 446) hx hb dL_law_33 c_6 (by decide) (by decide) rfl (by decide) ?_
        exact lc_6 hs.2.2.2.2.2.2.1 hc hX hbl hbA ad bd x3 h1' h2' h3' h4' h5' c0 d0 hr (fun c1 d1 hr1 ls H locs hl hG => hk c1 d1 hr1 ls H locs hl hG) ls H locs hl hG
      by_cases c_7 : sel = 7
      · refine x_swG (tgt := 479) hx hb dL_law_33 c_7 (by decide) (by decide) rfl (by decide) ?_
        exact lc_7 hs.2.2.2.2.2.2.2.1 hc hX hbl hbA ad bd x3 h1' h2' h3' h4' h5' c0 d0 hr (fun c1 d1 hr1 ls H locs hl hG => hk c1 d1 hr1 ls H locs hl hG) ls H locs hl hG
      by_cases c_8 : sel = 8
      · refine x_swG (tgt := 522) hx hb dL_law_33 c_8 (by decide) (by decide) rfl (by decide) ?_
        exact lc_8 hs.2.2.2.2.2.2.2.2.1 hc hX hbl hbA ad bd x3 h1' h2' h3' h4' h5' c0 d0 hr (fun c1 d1 hr1 ls H locs hl hG => hk c1 d1 hr1 ls H locs hl hG) ls H locs hl hG
      by_cases c_9 : sel = 9
      · refine x_swG (tgt := 545) hx hb dL_law_33 c_9 (by decide) (by decide) rfl (by decide) ?_
        exact lc_9 hs.2.2.2.2.2.2.2.2.2.1 hc hX hbl hbA ad bd x3 h1' h2' h3' h4' h5' c0 d0 hr (fun c1 d1 hr1 ls H locs hl hG => hk c1 d1 hr1 ls H locs hl hG) ls H locs hl hG
      by_cases c_10 : sel = 10
      · refine x_swG (tgt := 568) hx hb dL_law_33 c_10 (by decide) (by decide) rfl (by decide) ?_
        exact lc_10 hs.2.2.2.2.2.2.2.2.2.2.1 hc hX hbl hbA ad bd x3 h1' h2' h3' h4' h5' c0 d0 hr (fun c1 d1 hr1 ls H locs hl hG => hk c1 d1 hr1 ls H locs hl hG) ls H locs hl hG
      by_cases c_11 : sel = 11
      · refine x_swG (tgt := 601) hx hb dL_law_33 c_11 (by decide) (by decide) rfl (by decide) ?_
        exact lc_11 hs.2.2.2.2.2.2.2.2.2.2.2.1 hc hX hbl hbA ad bd x3 h1' h2' h3' h4' h5' c0 d0 hr (fun c1 d1 hr1 ls H locs hl hG => hk c1 d1 hr1 ls H locs hl hG) ls H locs hl hG
      by_cases c_12 : sel = 12
      · refine x_swG (tgt := 634) hx hb dL_law_33 c_12 (by decide) (by decide) rfl (by decide) ?_
        exact lc_12 hs.2.2.2.2.2.2.2.2.2.2.2.2.1 hc hX hbl hbA ad bd x3 h1' h2' h3' h4' h5' c0 d0 hr (fun c1 d1 hr1 ls H locs hl hG => hk c1 d1 hr1 ls H locs hl hG) ls H locs hl hG
      by_cases c_13 : sel = 13
      · refine x_swG (tgt := 647) hx hb dL_law_33 c_13 (by decide) (by decide) rfl (by decide) ?_
        exact lc_13 hs.2.2.2.2.2.2.2.2.2.2.2.2.2.1 hc hX hbl hbA ad bd x3 h1' h2' h3' h4' h5' c0 d0 hr (fun c1 d1 hr1 ls H locs hl hG => hk c1 d1 hr1 ls H locs hl hG) ls H locs hl hG
      by_cases c_14 : sel = 14
      · refine x_swG (tgt := 680) hx hb dL_law_33 c_14 (by decide) (by decide) rfl (by decide) ?_
        exact lc_14 hs.2.2.2.2.2.2.2.2.2.2.2.2.2.2.1 hc hX hbl hbA ad bd x3 h1' h2' h3' h4' h5' c0 d0 hr (fun c1 d1 hr1 ls H locs hl hG => hk c1 d1 hr1 ls H locs hl hG) ls H locs hl hG
      by_cases c_15 : sel = 15
      · refine x_swG (tgt := 703) hx hb dL_law_33 c_15 (by decide) (by decide) rfl (by decide) ?_
        exact lc_15 hs.2.2.2.2.2.2.2.2.2.2.2.2.2.2.2.1 hc hX hbl hbA ad bd x3 h1' h2' h3' h4' h5' c0 d0 hr (fun c1 d1 hr1 ls H locs hl hG => hk c1 d1 hr1 ls H locs hl hG) ls H locs hl hG
      by_cases c_16 : sel = 16
      · refine x_swG (tgt := 726) hx hb dL_law_33 c_16 (by decide) (by decide) rfl (by decide) ?_
        exact lc_16 hs.2.2.2.2.2.2.2.2.2.2.2.2.2.2.2.2.1 hc hX hbl hbA ad bd x3 h1' h2' h3' h4' h5' c0 d0 hr (fun c1 d1 hr1 ls H locs hl hG => hk c1 d1 hr1 ls H locs hl hG) ls H locs hl hG
      by_cases c_17 : sel = 17
      · refine x_swG (tgt := 749) hx hb dL_law_33 c_17 (by decide) (by decide) rfl (by decide) ?_
        exact lc_17 hs.2.2.2.2.2.2.2.2.2.2.2.2.2.2.2.2.2.1 hc hX hbl hbA ad bd x3 h1' h2' h3' h4' h5' c0 d0 hr (fun c1 d1 hr1 ls H locs hl hG => hk c1 d1 hr1 ls H locs hl hG) ls H locs hl hG
      by_cases c_18 : sel = 18
      · refine x_swG (tgt := 772) hx hb dL_law_33 c_18 (by decide) (by decide) rfl (by decide) ?_
        exact lc_18 hs.2.2.2.2.2.2.2.2.2.2.2.2.2.2.2.2.2.2.1 hc hX hbl hbA ad bd x3 h1' h2' h3' h4' h5' c0 d0 hr (fun c1 d1 hr1 ls H locs hl hG => hk c1 d1 hr1 ls H locs hl hG) ls H locs hl hG
      by_cases c_19 : sel = 19
      · refine x_swG (tgt := 795) hx hb dL_law_33 c_19 (by decide) (by decide) rfl (by decide) ?_
        exact lc_19 hs.2.2.2.2.2.2.2.2.2.2.2.2.2.2.2.2.2.2.2.1 hc hX hbl hbA ad bd x3 h1' h2' h3' h4' h5' c0 d0 hr (fun c1 d1 hr1 ls H locs hl hG => hk c1 d1 hr1 ls H locs hl hG) ls H locs hl hG
      by_cases c_20 : sel = 20
      · refine x_swG (tgt := 818) hx hb dL_law_33 c_20 (by decide) (by decide) rfl (by decide) ?_
        exact lc_20 hs.2.2.2.2.2.2.2.2.2.2.2.2.2.2.2.2.2.2.2.2.1 hc hX hbl hbA ad bd x3 h1' h2' h3' h4' h5' c0 d0 hr (fun c1 d1 hr1 ls H locs hl hG => hk c1 d1 hr1 ls H locs hl hG) ls H locs hl hG
      by_cases c_21 : sel = 21
      · refine x_swG (tgt := 861) hx hb dL_law_33 c_21 (by decide) (by decide) rfl (by decide) ?_
        exact lc_21 hs.2.2.2.2.2.2.2.2.2.2.2.2.2.2.2.2.2.2.2.2.2.1 hc hX hbl hbA ad bd x3 h1' h2' h3' h4' h5' c0 d0 hr (fun c1 d1 hr1 ls H locs hl hG => hk c1 d1 hr1 ls H locs hl hG) ls H locs hl hG
      by_cases c_22 : sel = 22
      · refine x_swG (tgt := 874) hx hb dL_law_33 c_22 (by decide) (by decide) rfl (by decide) ?_
        exact lc_22 hs.2.2.2.2.2.2.2.2.2.2.2.2.2.2.2.2.2.2.2.2.2.2.1 hc hX hbl hbA ad bd x3 h1' h2' h3' h4' h5' c0 d0 hr (fun c1 d1 hr1 ls H locs hl hG => hk c1 d1 hr1 ls H locs hl hG) ls H locs hl hG
      by_cases c_23 : sel = 23
      · refine x_swG (tgt := 897) hx hb dL_law_33 c_23 (by decide) (by decide) rfl (by decide) ?_
        exact lc_23 hs.2.2.2.2.2.2.2.2.2.2.2.2.2.2.2.2.2.2.2.2.2.2.2.1 hc hX hbl hbA ad bd x3 h1' h2' h3' h4' h5' c0 d0 hr (fun c1 d1 hr1 ls H locs hl hG => hk c1 d1 hr1 ls H locs hl hG) ls H locs hl hG
      by_cases c_24 : sel = 24
      · refine x_swG (tgt := 920) hx hb dL_law_33 c_24 (by decide) (by decide) rfl (by decide) ?_
        exact lc_24 hs.2.2.2.2.2.2.2.2.2.2.2.2.2.2.2.2.2.2.2.2.2.2.2.2.1 hc hX hbl hbA ad bd x3 h1' h2' h3' h4' h5' c0 d0 hr (fun c1 d1 hr1 ls H locs hl hG => hk c1 d1 hr1 ls H locs hl hG) ls H locs hl hG
      by_cases c_25 : sel = 25
      · refine x_swG (tgt := 943) hx hb dL_law_33 c_25 (by decide) (by decide) rfl (by decide) ?_
        exact lc_25 hs.2.2.2.2.2.2.2.2.2.2.2.2.2.2.2.2.2.2.2.2.2.2.2.2.2.1 hc hX hbl hbA ad bd x3 h1' h2' h3' h4' h5' c0 d0 hr (fun c1 d1 hr1 ls H locs hl hG => hk c1 d1 hr1 ls H locs hl hG) ls H locs hl hG
      by_cases c_26 : sel = 26
      · refine x_swG (tgt := 976) hx hb dL_law_33 c_26 (by decide) (by decide) rfl (by decide) ?_
        exact lc_26 hs.2.2.2.2.2.2.2.2.2.2.2.2.2.2.2.2.2.2.2.2.2.2.2.2.2.2.1 hc hX hbl hbA ad bd x3 h1' h2' h3' h4' h5' c0 d0 hr (fun c1 d1 hr1 ls H locs hl hG => hk c1 d1 hr1 ls H locs hl hG) ls H locs hl hG
      by_cases c_27 : sel = 27
      · refine x_swG (tgt := 999) hx hb dL_law_33 c_27 (by decide) (by decide) rfl (by decide) ?_
        exact lc_27 hs.2.2.2.2.2.2.2.2.2.2.2.2.2.2.2.2.2.2.2.2.2.2.2.2.2.2.2.1 hc hX hbl hbA ad bd x3 h1' h2' h3' h4' h5' c0 d0 hr (fun c1 d1 hr1 ls H locs hl hG => hk c1 d1 hr1 ls H locs hl hG) ls H locs hl hG
      by_cases c_28 : sel = 28
      · refine x_swG (tgt := 1022) hx hb dL_law_33 c_28 (by decide) (by decide) rfl (by decide) ?_
        exact lc_28 hs.2.2.2.2.2.2.2.2.2.2.2.2.2.2.2.2.2.2.2.2.2.2.2.2.2.2.2.2.1 hc hX hbl hbA ad bd x3 h1' h2' h3' h4' h5' c0 d0 hr (fun c1 d1 hr1 ls H locs hl hG => hk c1 d1 hr1 ls H locs hl hG) ls H locs hl hG
      by_cases c_29 : sel = 29
      · refine x_swG (tgt := 1045) hx hb dL_law_33 c_29 (by decide) (by decide) rfl (by decide) ?_
        exact lc_29 hs.2.2.2.2.2.2.2.2.2.2.2.2.2.2.2.2.2.2.2.2.2.2.2.2.2.2.2.2.2.1 hc hX hbl hbA ad bd x3 h1' h2' h3' h4' h5' c0 d0 hr (fun c1 d1 hr1 ls H locs hl hG => hk c1 d1 hr1 ls H locs hl hG) ls H locs hl hG
      by_cases c_30 : sel = 30
      · refine x_swG (tgt := 1078) hx hb dL_law_33 c_30 (by decide) (by decide) rfl (by decide) ?_
        exact lc_30 hs.2.2.2.2.2.2.2.2.2.2.2.2.2.2.2.2.2.2.2.2.2.2.2.2.2.2.2.2.2.2.1 hc hX hbl hbA ad bd x3 h1' h2' h3' h4' h5' c0 d0 hr (fun c1 d1 hr1 ls H locs hl hG => hk c1 d1 hr1 ls H locs hl hG) ls H locs hl hG
      by_cases c_31 : sel = 31
      · refine x_swG (tgt := 1111) hx hb dL_law_33 c_31 (by decide) (by decide) rfl (by decide) ?_
        exact lc_31 hs.2.2.2.2.2.2.2.2.2.2.2.2.2.2.2.2.2.2.2.2.2.2.2.2.2.2.2.2.2.2.2.1 hc hX hbl hbA ad bd x3 h1' h2' h3' h4' h5' c0 d0 hr (fun c1 d1 hr1 ls H locs hl hG => hk c1 d1 hr1 ls H locs hl hG) ls H locs hl hG
      by_cases c_32 : sel = 32
      · refine x_swG (tgt := 1144) hx hb dL_law_33 c_32 (by decide) (by decide) rfl (by decide) ?_
        exact lc_32 hs.2.2.2.2.2.2.2.2.2.2.2.2.2.2.2.2.2.2.2.2.2.2.2.2.2.2.2.2.2.2.2.2.1 hc hX hbl hbA ad bd x3 h1' h2' h3' h4' h5' c0 d0 hr (fun c1 d1 hr1 ls H locs hl hG => hk c1 d1 hr1 ls H locs hl hG) ls H locs hl hG
      by_cases c_33 : sel = 33
      · refine x_swG (tgt := 1167) hx hb dL_law_33 c_33 (by decide) (by decide) rfl (by decide) ?_
        exact lc_33 hs.2.2.2.2.2.2.2.2.2.2.2.2.2.2.2.2.2.2.2.2.2.2.2.2.2.2.2.2.2.2.2.2.2.1 hc hX hbl hbA ad bd x3 h1' h2' h3' h4' h5' c0 d0 hr (fun c1 d1 hr1 ls H locs hl hG => hk c1 d1 hr1 ls H locs hl hG) ls H locs hl hG
      by_cases c_34 : sel = 34
      · refine x_swG (tgt := 1190) hx hb dL_law_33 c_34 (by decide) (by decide) rfl (by decide) ?_
        exact lc_34 hs.2.2.2.2.2.2.2.2.2.2.2.2.2.2.2.2.2.2.2.2.2.2.2.2.2.2.2.2.2.2.2.2.2.2.1 hc hX hbl hbA ad bd x3 h1' h2' h3' h4' h5' c0 d0 hr (fun c1 d1 hr1 ls H locs hl hG => hk c1 d1 hr1 ls H locs hl hG) ls H locs hl hG
      by_cases c_35 : sel = 35
      · refine x_swG (tgt := 1213) hx hb dL_law_33 c_35 (by decide) (by decide) rfl (by decide) ?_
        exact lc_35 hs.2.2.2.2.2.2.2.2.2.2.2.2.2.2.2.2.2.2.2.2.2.2.2.2.2.2.2.2.2.2.2.2.2.2.2.1 hc hX hbl hbA ad bd x3 h1' h2' h3' h4' h5' c0 d0 hr (fun c1 d1 hr1 ls H locs hl hG => hk c1 d1 hr1 ls H locs hl hG) ls H locs hl hG
      by_cases c_36 : sel = 36
      · refine x_swG (tgt := 1246) hx hb dL_law_33 c_36 (by decide) (by decide) rfl (by decide) ?_
        exact lc_36 hs.2.2.2.2.2.2.2.2.2.2.2.2.2.2.2.2.2.2.2.2.2.2.2.2.2.2.2.2.2.2.2.2.2.2.2.2.1 hc hX hbl hbA ad bd x3 h1' h2' h3' h4' h5' c0 d0 hr (fun c1 d1 hr1 ls H locs hl hG => hk c1 d1 hr1 ls H locs hl hG) ls H locs hl hG
      by_cases c_37 : sel = 37
      · refine x_swG (tgt := 1269) hx hb dL_law_33 c_37 (by decide) (by decide) rfl (by decide) ?_
        exact lc_37 hs.2.2.2.2.2.2.2.2.2.2.2.2.2.2.2.2.2.2.2.2.2.2.2.2.2.2.2.2.2.2.2.2.2.2.2.2.2.1 hc hX hbl hbA ad bd x3 h1' h2' h3' h4' h5' c0 d0 hr (fun c1 d1 hr1 ls H locs hl hG => hk c1 d1 hr1 ls H locs hl hG) ls H locs hl hG
      by_cases c_38 : sel = 38
      · refine x_swG (tgt := 1302) hx hb dL_law_33 c_38 (by decide) (by decide) rfl (by decide) ?_
        exact lc_38 hs.2.2.2.2.2.2.2.2.2.2.2.2.2.2.2.2.2.2.2.2.2.2.2.2.2.2.2.2.2.2.2.2.2.2.2.2.2.2.1 hc hX hbl hbA ad bd x3 h1' h2' h3' h4' h5' c0 d0 hr (fun c1 d1 hr1 ls H locs hl hG => hk c1 d1 hr1 ls H locs hl hG) ls H locs hl hG
      by_cases c_39 : sel = 39
      · refine x_swG (tgt := 1315) hx hb dL_law_33 c_39 (by decide) (by decide) rfl (by decide) ?_
        exact lc_39 hs.2.2.2.2.2.2.2.2.2.2.2.2.2.2.2.2.2.2.2.2.2.2.2.2.2.2.2.2.2.2.2.2.2.2.2.2.2.2.2.1 hc hX hbl hbA ad bd x3 h1' h2' h3' h4' h5' c0 d0 hr (fun c1 d1 hr1 ls H locs hl hG => hk c1 d1 hr1 ls H locs hl hG) ls H locs hl hG
      by_cases c_40 : sel = 40
      · refine x_swG (tgt := 1329) hx hb dL_law_33 c_40 (by decide) (by decide) rfl (by decide) ?_
        exact lc_40 hs.2.2.2.2.2.2.2.2.2.2.2.2.2.2.2.2.2.2.2.2.2.2.2.2.2.2.2.2.2.2.2.2.2.2.2.2.2.2.2.2.1 hc hX hbl hbA ad bd x3 h1' h2' h3' h4' h5' c0 d0 hr (fun c1 d1 hr1 ls H locs hl hG => hk c1 d1 hr1 ls H locs hl hG) ls H locs hl hG
      by_cases c_41 : sel = 41
      · refine x_swG (tgt := 1343) hx hb dL_law_33 c_41 (by decide) (by decide) rfl (by decide) ?_
        exact lc_41 hs.2.2.2.2.2.2.2.2.2.2.2.2.2.2.2.2.2.2.2.2.2.2.2.2.2.2.2.2.2.2.2.2.2.2.2.2.2.2.2.2.2.1 hc hX hbl hbA ad bd x3 h1' h2' h3' h4' h5' c0 d0 hr (fun c1 d1 hr1 ls H locs hl hG => hk c1 d1 hr1 ls H locs hl hG) ls H locs hl hG
      by_cases c_42 : sel = 42
      · refine x_swG (tgt := 1366) hx hb dL_law_33 c_42 (by decide) (by decide) rfl (by decide) ?_
        exact lc_42 hs.2.2.2.2.2.2.2.2.2.2.2.2.2.2.2.2.2.2.2.2.2.2.2.2.2.2.2.2.2.2.2.2.2.2.2.2.2.2.2.2.2.2.1 hc hX hbl hbA ad bd x3 h1' h2' h3' h4' h5' c0 d0 hr (fun c1 d1 hr1 ls H locs hl hG => hk c1 d1 hr1 ls H locs hl hG) ls H locs hl hG
      by_cases c_43 : sel = 43
      · refine x_swG (tgt := 1379) hx hb dL_law_33 c_43 (by decide) (by decide) rfl (by decide) ?_
        exact lc_43 hs.2.2.2.2.2.2.2.2.2.2.2.2.2.2.2.2.2.2.2.2.2.2.2.2.2.2.2.2.2.2.2.2.2.2.2.2.2.2.2.2.2.2.2.1 hc hX hbl hbA ad bd x3 h1' h2' h3' h4' h5' c0 d0 hr (fun c1 d1 hr1 ls H locs hl hG => hk c1 d1 hr1 ls H locs hl hG) ls H locs hl hG
      by_cases c_44 : sel = 44
      · refine x_swG (tgt := 1402) hx hb dL_law_33 c_44 (by decide) (by decide) rfl (by decide) ?_
        exact lc_44 hs.2.2.2.2.2.2.2.2.2.2.2.2.2.2.2.2.2.2.2.2.2.2.2.2.2.2.2.2.2.2.2.2.2.2.2.2.2.2.2.2.2.2.2.2 hc hX hbl hbA ad bd x3 h1' h2' h3' h4' h5' c0 d0 hr (fun c1 d1 hr1 ls H locs hl hG => hk c1 d1 hr1 ls H locs hl hG) ls H locs hl hG
      refine x_swH (tgt := 1416) hx hb dL_law_33 [0, 1, 2, 3, 4, 5, 6, 7, 8, 9, 10, 11, 12, 13, 14, 15, 16, 17, 18, 19, 20, 21, 22, 23, 24, 25, 26, 27, 28, 29, 30, 31, 32, 33, 34, 35, 36, 37, 38, 39, 40, 41, 42, 43, 44] (by decide) (List.forall_mem_cons.mpr ⟨lv_neT c_0 (by decide), (List.forall_mem_cons.mpr ⟨lv_neT c_1 (by decide), (List.forall_mem_cons.mpr ⟨lv_neT c_2 (by decide), (List.forall_mem_cons.mpr ⟨lv_neT c_3 (by decide), (List.forall_mem_cons.mpr ⟨lv_neT c_4 (by decide), (List.forall_mem_cons.mpr ⟨lv_neT c_5 (by decide), (List.forall_mem_cons.mpr ⟨lv_neT c_6 (by decide), (List.forall_mem_cons.mpr ⟨lv_neT c_7 (by decide), (List.forall_mem_cons.mpr ⟨lv_neT c_8 (by decide), (List.forall_mem_cons.mpr ⟨lv_neT c_9 (by decide), (List.forall_mem_cons.mpr ⟨lv_neT c_10 (by decide), (List.forall_mem_cons.mpr ⟨lv_neT c_11 (by decide), (List.forall_mem_cons.mpr ⟨lv_neT c_12 (by decide), (List.forall_mem_cons.mpr ⟨lv_neT c_13 (by decide), (List.forall_mem_cons.mpr ⟨lv_neT c_14 (by decide), (List.forall_mem_cons.mpr ⟨lv_neT c_15 (by decide), (List.forall_mem_cons.mpr ⟨lv_neT c_16 (by decide), (List.forall_mem_cons.mpr ⟨lv_neT c_17 (by decide), (List.forall_mem_cons.mpr ⟨lv_neT c_18 (by decide), (List.forall_mem_cons.mpr ⟨lv_neT c_19 (by decide), (List.forall_mem_cons.mpr ⟨lv_neT c_20 (by decide), (List.forall_mem_cons.mpr ⟨lv_neT c_21 (by decide), (List.forall_mem_cons.mpr ⟨lv_neT c_22 (by decide), (List.forall_mem_cons.mpr ⟨lv_neT c_23 (by decide), (List.forall_mem_cons.mpr ⟨lv_neT c_24 (by decide), (List.forall_mem_cons.mpr ⟨lv_neT c_25 (by decide), (List.forall_mem_cons.mpr ⟨lv_neT c_26 (by decide), (List.forall_mem_cons.mpr ⟨lv_neT c_27 (by decide), (List.forall_mem_cons.mpr ⟨lv_neT c_28 (by decide), (List.forall_mem_cons.mpr ⟨lv_neT c_29 (by decide), (List.forall_mem_cons.mpr ⟨lv_neT c_30 (by decide), (List.forall_mem_cons.mpr ⟨lv_neT c_31 (by decide), (List.forall_mem_cons.mpr ⟨lv_neT c_32 (by decide), (List.forall_mem_cons.mpr ⟨lv_neT c_33 (by decide), (List.forall_mem_cons.mpr ⟨lv_neT c_34 (by decide), (List.forall_mem_cons.mpr ⟨lv_neT c_35 (by decide), (List.forall_mem_cons.mpr ⟨lv_neT c_36 (by decide), (List.forall_mem_cons.mpr ⟨lv_neT c_37 (by decide), (List.forall_mem_cons.mpr ⟨lv_neT c_38 (by decide), (List.forall_mem_cons.mpr ⟨lv_neT c_39 (by decide), (List.forall_mem_cons.mpr ⟨lv_neT c_40 (by decide), (List.forall_mem_cons.mpr ⟨lv_neT c_41 (by decide), (List.forall_mem_cons.mpr ⟨lv_neT c_42 (by decide), (List.forall_mem_cons.mpr ⟨lv_neT c_43 (by decide), (List.forall_mem_cons.mpr ⟨lv_neT c_44 (by decide), (List.forall_mem_nil _)⟩)⟩)⟩)⟩)⟩)⟩)⟩)⟩)⟩)⟩)⟩)⟩)⟩)⟩)⟩)⟩)⟩)⟩)⟩)⟩)⟩)⟩)⟩)⟩)⟩)⟩)⟩)⟩)⟩)⟩)⟩)⟩)⟩)⟩)⟩)⟩)⟩)⟩)⟩)⟩)⟩)⟩)⟩)⟩)⟩) (by decide) ?_
      exact hk c0 d0 hr ls H locs hl hG
theorem nestF_in : nestF.all (fun q => decide (Cond.fieldLinkNest q.1 q.2.1 q.2.2.1 q.2.2.2.1 q.2.2.2.2 "PeelReadings" ∈ lw_tbl)) = true := by decide +kernel
theorem nestM_in : nestM.all (fun q => decide (Cond.methodLinkNest q.1 q.2.1 q.2.2 "PeelReadings" ∈ lw_tbl)) = true := by decide +kernel
theorem nL_7 : Cond.classLink RL 7 RX4 ∈ wl ∧ Cond.instantiable RX4 14 ∈ wl ∧ Cond.initialized RX4 ∈ wl := ⟨wl_mem (by decide +kernel), wl_mem (by decide +kernel), wl_mem (by decide +kernel)⟩
theorem nL_10 : Cond.classLink RL 10 RX5 ∈ wl ∧ Cond.instantiable RX5 21 ∈ wl ∧ Cond.initialized RX5 ∈ wl := ⟨wl_mem (by decide +kernel), wl_mem (by decide +kernel), wl_mem (by decide +kernel)⟩
theorem iL_9 : Cond.methodLink RL 9 yX4_init ∈ wl ∧ Cond.instanceMethod yX4_init ∈ wl ∧ Cond.initialized yX4_init.cls ∈ wl ∧ GoodIn wl (Cond.code yX4_init cX4_init 1 none :: wl) ∧ yX4_init.name = "<init>" ∧ yX4_init.cls ≠ "java/lang/invoke/MethodHandle" ∧ yX4_init.cls ≠ "java/lang/invoke/VarHandle" ∧ (parseMethodDescriptor yX4_init.desc).map (fun d => d.parameters.length) = some 0 := ⟨wl_mem (by decide +kernel), wl_mem (by decide +kernel), wl_mem (by decide +kernel), wl_code (wl_mem (by decide +kernel)), rfl, by decide +kernel, by decide +kernel, by decide +kernel⟩
theorem iL_12 : Cond.methodLink RL 12 yX5_init ∈ wl ∧ Cond.instanceMethod yX5_init ∈ wl ∧ Cond.initialized yX5_init.cls ∈ wl ∧ GoodIn wl (Cond.code yX5_init cX5_init 2 none :: wl) ∧ yX5_init.name = "<init>" ∧ yX5_init.cls ≠ "java/lang/invoke/MethodHandle" ∧ yX5_init.cls ≠ "java/lang/invoke/VarHandle" ∧ (parseMethodDescriptor yX5_init.desc).map (fun d => d.parameters.length) = some 0 := ⟨wl_mem (by decide +kernel), wl_mem (by decide +kernel), wl_mem (by decide +kernel), wl_code (wl_mem (by decide +kernel)), rfl, by decide +kernel, by decide +kernel, by decide +kernel⟩
set_option maxHeartbeats 4000000 in
set_option maxRecDepth 100000 in
/-- THE LAW, from its entry, over any relation that holds of the two new objects and that every step keeps -/
theorem whole_open {Rel : CS → MS → Prop} (h00 : Rel c00 d00) (hs : AllSteps Rel) {p : Program} {e : Env} {s : State} {m : MethodId} {below : List Frame} {meth : Method} {c : Code} (l : Launch) {b L : Nat} {xs : Nat → Int32} (hL : L ≤ 384) (C0 : lw_At p s m meth c b L xs) : W p l e room_1 s m #[Value.ref b] below meth c s.heap [] 0 0 (lw_Z below #[Value.ref b] s) (entryFrame m ([Value.ref b] : List Value).toArray 4) := by
  obtain ⟨hx, hb, hr, hml, hown, hts0, hX, hbl, hlocks, hgv⟩ := id C0
  have hts : ∀ w ∈ wl, w.before #[Value.ref b] s = true := fun w h => hts0 w (wl_in h)
  have hf := flat_of_before _ hgv
  have harr : (Cond.arrayOf (.static "PeelReadings$Slice" "LINE_PLACES" "[I") .int).before #[Value.ref b] s = true := hf _ (by decide +kernel)
  have hlen : (Term.length (.static "PeelReadings$Slice" "LINE_PLACES" "[I")).eval #[Value.ref b] s none [] s = some (.int 8) := va_eqt (hf _ (by decide +kernel))
  have hel : ∀ j : Nat, j < 8 → (Term.elem (.static "PeelReadings$Slice" "LINE_PLACES" "[I") (.int (Int32.ofNat j))).eval #[Value.ref b] s none [] s = some (.int (lineP j)) := by
    intro j hj
    rcases (show j = 0 ∨ j = 1 ∨ j = 2 ∨ j = 3 ∨ j = 4 ∨ j = 5 ∨ j = 6 ∨ j = 7 by omega) with rfl | rfl | rfl | rfl | rfl | rfl | rfl | rfl
    · exact va_eqt (hf (Cond.eq (.elem (.static "PeelReadings$Slice" "LINE_PLACES" "[I") (.int 0)) (.int 15)) (by decide +kernel))
    · exact va_eqt (hf (Cond.eq (.elem (.static "PeelReadings$Slice" "LINE_PLACES" "[I") (.int 1)) (.int 240)) (by decide +kernel))
    · exact va_eqt (hf (Cond.eq (.elem (.static "PeelReadings$Slice" "LINE_PLACES" "[I") (.int 2)) (.int 3840)) (by decide +kernel))
    · exact va_eqt (hf (Cond.eq (.elem (.static "PeelReadings$Slice" "LINE_PLACES" "[I") (.int 3)) (.int 61440)) (by decide +kernel))
    · exact va_eqt (hf (Cond.eq (.elem (.static "PeelReadings$Slice" "LINE_PLACES" "[I") (.int 4)) (.int 4369)) (by decide +kernel))
    · exact va_eqt (hf (Cond.eq (.elem (.static "PeelReadings$Slice" "LINE_PLACES" "[I") (.int 5)) (.int 8738)) (by decide +kernel))
    · exact va_eqt (hf (Cond.eq (.elem (.static "PeelReadings$Slice" "LINE_PLACES" "[I") (.int 6)) (.int 17476)) (by decide +kernel))
    · exact va_eqt (hf (Cond.eq (.elem (.static "PeelReadings$Slice" "LINE_PLACES" "[I") (.int 7)) (.int 34952)) (by decide +kernel))
  obtain ⟨tL, ht, hT⟩ := va_Tof (A := fun q => s.heap.size ≤ q) (N := 8) (f := fun j => .int (lineP j)) (by decide) harr hlen hel (fun a h => Nat.not_le.mpr h)
  have hZ := va_Zof (A := fun q => s.heap.size ≤ q) (hts0 (.laysStatic "PeelReadings$Slice" "LINE_PLACES" "[I") (by decide +kernel)) (hts0 (.initialized "PeelReadings$Slice") (by decide +kernel)) ht (fun a h => Nat.not_le.mpr h)
  have hnn : nn s := ⟨fun q hq => va_Nw.of rfl (hts0 _ (of_decide_eq_true (List.all_eq_true.mp nestF_in q hq))), fun q hq => va_Nw.of rfl (hts0 _ (of_decide_eq_true (List.all_eq_true.mp nestM_in q hq)))⟩
  obtain ⟨c0, iS0, hKn0⟩ := u_known (C := RX0) (T := TX0) (N := 4) (n := 4) hts iX0.2 (hts _ (wl_mem (by decide +kernel)))
  obtain ⟨c1, iS1, hKn1⟩ := u_known (C := RX1) (T := TX1) (N := 4) (n := 4) hts iX1.2 (hts _ (wl_mem (by decide +kernel)))
  obtain ⟨c2, iS2, hKn2⟩ := u_known (C := RX2) (T := TX2) (N := 3) (n := 3) hts iX2.2 (hts _ (wl_mem (by decide +kernel)))
  obtain ⟨c3, iS3, hKn3⟩ := u_known (C := RX3) (T := TX3) (N := 11) (n := 11) hts iX3.2 (hts _ (wl_mem (by decide +kernel)))
  obtain ⟨c4, iS4, hKn4⟩ := u_known (C := RX4) (T := TX4) (N := 14) (n := 14) hts iX4.2 (hts _ nL_7.2.1)
  obtain ⟨c5, iS5, hKn5⟩ := u_known (C := RX5) (T := TX5) (N := 21) (n := 21) hts iX5.2 (hts _ nL_10.2.1)
  obtain ⟨dC, dI, hKc⟩ : ∃ (dC : Nat → ClassId) (dI : Nat → Nat → Nat), ∀ (k : Nat) (q : vw_C), vwCl[k]? = some q → u_Kn s q.1 q.2.1 q.2.2 (dC k) (dI k) := by
    refine ⟨fun k => match k with | 0 => c0 | 1 => c1 | 2 => c2 | 3 => c3 | 4 => c4 | _ => c5, fun k => match k with | 0 => iS0 | 1 => iS1 | 2 => iS2 | 3 => iS3 | 4 => iS4 | _ => iS5, ?_⟩
    intro k q hq
    match k, hq with
    | 0, hq => cases hq; exact hKn0
    | 1, hq => cases hq; exact hKn1
    | 2, hq => cases hq; exact hKn2
    | 3, hq => cases hq; exact hKn3
    | 4, hq => cases hq; exact hKn4
    | 5, hq => cases hq; exact hKn5
    | k + 6, hq => simp [vwCl] at hq
  obtain ⟨cI, kA, comp, a1, a2, a3⟩ := Cond.arrayClass_spec (hts _ kAI)
  have hK : va_K (dC, dI) vwCl [(cI, .int)] s := by
    refine ⟨hKc, fun k q h => ?_⟩
    match k, h with
    | 0, h => cases h; exact ⟨fun n z => ⟨fun k h => (by cases h), kA, a2, comp, a3⟩, a1⟩
    | k + 1, h => simp at h
  have hc : Cx p s m #[Value.ref b] c (dC, dI) cI tL (fun q => s.heap.size ≤ q) code 4 RL := ⟨hx, hb, hml, hown, hts, hK, fun _ h => h, ⟨hZ, hT⟩, hnn⟩
  have hG : St (dC, dI) (fun q => s.heap.size ≤ q) s [] s.heap [] := ⟨fun k q h => by simp at h, ⟨fun i j p q h => by simp at h, fun k q h => by simp at h⟩, va_S.rf⟩
  have hl := lv_entry ([.ref b]) (n := 4) (Nat.le_of_ble_eq_true rfl)
  rw [lg_entry_eq]
  generalize (lg_sl ([.ref b]) ++ List.replicate (4 - (lg_sl ([.ref b])).length) Slot.unset).toArray = ls at hl ⊢
  have hl : lv_has ls 4 [(0, .ref b)] := hl
  refine y_new (fs := [.null, .null, .null, .null, .null, .null, .null, .null, .null, .null, .int 0, .int 0, .long 0, .long 0]) hc hG iX4 tyX4 tyX4_ok nL_7 fsX4 (by decide) dL_law_0 (fun q0 H hG => ?_)
  have hG : St (dC, dI) (fun q => s.heap.size ≤ q) s [(q0, .inr (4, [.null, .null, .null, .null, .null, .null, .null, .null, .null, .null, .int 0, .int 0, .long 0, .long 0]))] H [] := hG
  refine lv_dup hx hb dL_law_3 rfl ?_
  refine y_ci (rest := [.ref q0]) (ws' := fun u => w4 cI u c00) hc hG (cn_X4 q0) 32 [0] [] [0, 1, 2, 3, 4, 5, 6, 7, 8, 9, 10, 11, 12, 13, 14, 15, 16, 17, 18, 19, 20, 21, 22, 23, 24, 25, 26, 27, 28, 29, 30, 31] rfl (fun _ => rfl) rfl (fun _ => rfl) iL_9 ⟨rfl, rfl, by decide, by decide⟩ (by decide) rfl hl.1 (Nat.le_of_ble_eq_true rfl) rfl dL_law_4 (fun u H locs hu hGn => ?_)
  subst hu
  have hG : St (dC, dI) (fun q => s.heap.size ≤ q) s (w4 cI u c00) H locs := hGn
  clear hGn
  refine lv_astore_n (lv' := [(1, .ref (u 0)), (0, .ref b)]) hx hb dL_law_7 rfl hl (by decide) rfl (fun ls hl => ?_)
  refine y_new (fs := [.null, .null, .null, .null, .null, .null, .null, .null, .null, .int 0, .null, .null, .null, .int 0, .null, .int 0, .long 0, .long 0, .int 0, .int 0, .null]) hc hG iX5 tyX5 tyX5_ok nL_10 fsX5 (by decide) dL_law_8 (fun q8 H hG => ?_)
  refine lv_dup hx hb dL_law_11 rfl ?_
  refine y_ci (rest := [.ref q8]) (ws' := fun v => w4 cI u c00 ++ w5 cI v d00) hc hG (cn_X5 q8) 15 [32] [0, 1, 2, 3, 4, 5, 6, 7, 8, 9, 10, 11, 12, 13, 14, 15, 16, 17, 18, 19, 20, 21, 22, 23, 24, 25, 26, 27, 28, 29, 30, 31] [0, 1, 2, 3, 4, 5, 6, 7, 8, 9, 10, 11, 12, 13, 14, 15, 16, 17, 18, 19, 20, 21, 22, 23, 24, 25, 26, 27, 28, 29, 30, 31, 32, 33, 34, 35, 36, 37, 38, 39, 40, 41, 42, 43, 44, 45, 46] rfl (fun _ => rfl) rfl (fun _ => rfl) iL_12 ⟨rfl, rfl, by decide, by decide⟩ (by decide) rfl hl.1 (Nat.le_of_ble_eq_true rfl) rfl dL_law_12 (fun v H locs hu hGn => ?_)
  subst hu
  have hG : St (dC, dI) (fun q => s.heap.size ≤ q) s (w4 cI u c00 ++ w5 cI v d00) H locs := hGn
  clear hGn
  refine lv_astore_n (lv' := [(2, .ref (v 0)), (1, .ref (u 0)), (0, .ref b)]) hx hb dL_law_15 rfl hl (by decide) rfl (fun ls hl => ?_)
  refine lv_iconst (v := 0) hx hb dL_law_16 (by decide) ?_
  refine lv_istore_n (lv' := [(3, .int 0), (2, .ref (v 0)), (1, .ref (u 0)), (0, .ref b)]) hx hb dL_law_17 rfl hl (by decide) rfl (fun ls hl => ?_)
  exact law_loop hL hs hc hr hlocks hX hbl u v L 0 0 (by omega) (Nat.zero_le L) nI_0.symm c00 d00 h00 ls H locs (lv_sub hl [3, 2, 1, 0] rfl) hG

