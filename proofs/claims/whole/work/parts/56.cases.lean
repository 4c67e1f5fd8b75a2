/-! ===== printed by wip/whole/law.py: the law's cases ===== -/
theorem lcmp_self (r : Int64) : lg_cmp r r = 0 := by
  unfold lg_cmp
  rw [if_neg (by simp), if_pos rfl]
theorem va_Dl {A : Nat → Prop} {wa wb : va_W} (h : va_D A (wa ++ wb)) : va_D A wa := by
  have key : ∀ {i : Nat} {p : Nat × va_E}, wa[i]? = some p → (wa ++ wb)[i]? = some p := fun {i p} hi => by
    rw [List.getElem?_append_left (List.getElem?_eq_some_iff.mp hi).1]; exact hi
  exact ⟨fun i j p q hi hj e => h.1 i j p q (key hi) (key hj) e, fun k q hk => h.2 k q (key hk)⟩
theorem va_Dr {A : Nat → Prop} {wa wb : va_W} (h : va_D A (wa ++ wb)) : va_D A wb := by
  have key : ∀ {i : Nat} {p : Nat × va_E}, wb[i]? = some p → (wa ++ wb)[wa.length + i]? = some p := fun {i p} hi => by
    rw [List.getElem?_append_right (Nat.le_add_right _ _), Nat.add_sub_cancel_left]; exact hi
  exact ⟨fun i j p q hi hj e => by have := h.1 _ _ p q (key hi) (key hj) e; omega, fun k q hk => h.2 _ q (key hk)⟩
theorem va_Dx {A : Nat → Prop} {wa wb : va_W} (h : va_D A (wa ++ wb)) {i j : Nat} {p q : Nat × va_E} (hi : wa[i]? = some p) (hj : wb[j]? = some q) : p.1 ≠ q.1 := by
  intro e
  have hl : i < wa.length := (List.getElem?_eq_some_iff.mp hi).1
  have a : (wa ++ wb)[i]? = some p := by rw [List.getElem?_append_left hl]; exact hi
  have b : (wa ++ wb)[wa.length + j]? = some q := by rw [List.getElem?_append_right (Nat.le_add_right _ _), Nat.add_sub_cancel_left]; exact hj
  have := h.1 _ _ p q a b e
  omega
theorem va_Pl {D : va_G} {cl : List vw_C} {wa wb : va_W} {H : Heap} (h : va_P D cl (wa ++ wb) H) : va_P D cl wa H := fun i p hi => h i p (by rw [List.getElem?_append_left (List.getElem?_eq_some_iff.mp hi).1]; exact hi)
theorem va_Pr {D : va_G} {cl : List vw_C} {wa wb : va_W} {H : Heap} (h : va_P D cl (wa ++ wb) H) : va_P D cl wb H := fun i p hi => h (wa.length + i) p (by rw [List.getElem?_append_right (Nat.le_add_right _ _), Nat.add_sub_cancel_left]; exact hi)
theorem va_Papp {D : va_G} {cl : List vw_C} {wa wb : va_W} {H : Heap} (h1 : va_P D cl wa H) (h2 : va_P D cl wb H) : va_P D cl (wa ++ wb) H := by
  intro i p hi
  by_cases hl : i < wa.length
  · rw [List.getElem?_append_left hl] at hi
    exact h1 i p hi
  · rw [List.getElem?_append_right (by omega)] at hi
    exact h2 _ p hi
theorem va_lt {D : va_G} {cl : List vw_C} {w : va_W} {H : Heap} (h : va_P D cl w H) {k : Nat} {q : Nat × va_E} (hq : w[k]? = some q) : q.1 < H.size := by
  have hat := h k q hq
  obtain ⟨a, e | o⟩ := q
  · exact (Array.getElem?_eq_some_iff.mp hat).1
  · obtain ⟨r, h1, cell, g1, -⟩ := hat
    exact (Array.getElem?_eq_some_iff.mp g1).1
/-- the cells of a world that a call's callee doesn't own stay -/
theorem va_stay {D : va_G} {cl : List vw_C} {wi wb : va_W} {H H1 : Heap} (hP : va_P D cl wb H) (hx : ∀ (i j : Nat) (p q : Nat × va_E), wi[i]? = some p → wb[j]? = some q → p.1 ≠ q.1) (hk : ∀ q : Nat, q < H.size → ¬ va_A wi H.size q → H1[q]? = H[q]?) : va_P D cl wb H1 := by
  intro k q hq
  have hlt := va_lt hP hq
  refine va_at.kept (hP k q hq) (hk q.1 hlt ?_)
  intro h
  rcases h with ⟨j, e, h⟩ | h
  · exact hx j k _ q h hq rfl
  · omega
theorem va_apart2 {D : va_G} {cl : List vw_C} {wi wo wb : va_W} {H : Heap} (hP : va_P D cl wb H) (hx : ∀ (i j : Nat) (p q : Nat × va_E), wi[i]? = some p → wb[j]? = some q → p.1 ≠ q.1) (hD : va_D (va_A wi H.size) wo) : ∀ (i j : Nat) (p q : Nat × va_E), wo[i]? = some p → wb[j]? = some q → p.1 ≠ q.1 := by
  intro i j p q hi hj e
  have hlt := va_lt hP hj
  rcases hD.2 i p hi with ⟨k, e2, h⟩ | h
  · exact hx k j _ q h hj e
  · omega
section
variable {p : Program} {l : Launch} {e : Env} {R : Room} {s : State} {m : MethodId} {args : Array Value} {below : List Frame} {meth : Method} {c : Code} {H : Heap} {locs : List Loc} {Q : State → Prop}
variable {pc : Nat} {ls : Array Slot} {rest : List Value} {D : va_G} {cI : ClassId} {tL : Nat} {A : Nat → Prop} {cc : ByteArray} {nL : Nat} {own : String} {ws : va_W} {K N : Nat}
theorem y_viA (hc : Cx p s m args c D cI tL A cc nL own) {wa wb wo : va_W} (hG : St D A s (wa ++ wb) H locs) {y : MethodName} {bytes : ByteArray} {maxL : Nat} {ty : FieldType} {rm : Room} {b : Nat} {As : List Value} {r : Int32} (hM : Ci l D cI tL y bytes maxL ty rm wa (.ref b :: As) r wo)
    {ci : Nat} {fs : List Value} (he : wa[0]? = some (b, .inr (ci, fs))) {T : u_T} {NF : Nat} (hcl : vwCl[ci]? = some (y.cls, T, NF)) {index k : Nat} (hg : GoodIn wl (wsV own index y.cls y (Cond.code y bytes maxL (some ty) :: wl)) ∧ y.cls = y.cls ∧ y.cls ≠ "java/lang/invoke/MethodHandle" ∧ y.cls ≠ "java/lang/invoke/VarHandle" ∧ (parseMethodDescriptor y.desc).map (fun d => d.parameters.length) = some k) (hR : rm.cells = 0 ∧ rm.slots = 0 ∧ rm.frames + 1 ≤ R.frames ∧ 8 + (maxL + 11) + rm.locals ≤ R.locals) (hcs : K + 0 ≤ R.cells ∧ N + 0 ≤ R.slots) (hk : As.length = k) (hl : ls.size = nL) (hrm : (rest.map fun v => v.category).sum ≤ 8) {st : List Value} (hst : st = As.reverse ++ .ref b :: rest) (hdg : decode cc pc = .ok (.invokevirtual index, 3))
    (kk : ∀ (H : Heap) (locs : List Loc), St D A s (wo ++ wb) H locs → W p l e R s m args below meth c H locs K N Q (F0 m (pc + 3) ls (.int r :: rest))) : W p l e R s m args below meth c H locs K N Q (F0 m pc ls st) := by
  subst hst
  have hPa := va_Pl hG.1
  have hPb := va_Pr hG.1
  have hDa := va_Dl hG.2.1
  have hDb := va_Dr hG.2.1
  have hX := fun (i j : Nat) (p q : Nat × va_E) (h1 : wa[i]? = some p) (h2 : wb[j]? = some q) => va_Dx hG.2.1 h1 h2
  have hFc : ∀ q, va_A wa H.size q → A q := by
    intro q h
    rcases h with ⟨k, e, h⟩ | h
    · exact hDa.2 k (q, e) h
    · exact hc.2.2.2.2.2.2.1 q (Nat.le_trans hG.2.2.1 h)
  refine va_calli (va_runV (As := As) (rest := rest) ⟨hc.1, hc.2.1, hc.2.2.1, hc.2.2.2.1, hc.2.2.2.2.1⟩ (hM H.size) (cwV k hc.2.2.2.2.1 hg.1 rfl hR.1 hR.2.1 hg.2 hR.2.2) ⟨PreC.blind, va_recv hc.2.2.2.2.2.1 hPa hcl he, fun U hU hW => ⟨rfl, x_pre hc hG hPa hDa hFc U hU hW⟩⟩ rfl hk hl rfl (lv_room hrm) hdg hcs) hG.2.2 (fun q _ h => hFc q h) hFc (fun r1 u t H1 locs1 ht hvm hw hB hz1 hk1 hS => ?_)
  subst hw
  obtain ⟨hP1, hK1, hD1⟩ := hB
  rw [ht] at hP1
  have hD2 := hD1.weaken (B := A) (fun _ _ _ h => hFc _ h)
  exact kk H1 locs1 ⟨va_Papp hP1 (va_stay hPb hX hk1), hD2.app hDb (va_apart2 hPb hX hD1), hS⟩
theorem y_vlA (hc : Cx p s m args c D cI tL A cc nL own) {wa wb wo : va_W} (hG : St D A s (wa ++ wb) H locs) {y : MethodName} {bytes : ByteArray} {maxL : Nat} {rm : Room} {b : Nat} {As : List Value} {r : Int64} (hM : Cl l D cI tL y bytes maxL rm wa (.ref b :: As) r wo)
    {ci : Nat} {fs : List Value} (he : wa[0]? = some (b, .inr (ci, fs))) {T : u_T} {NF : Nat} (hcl : vwCl[ci]? = some (y.cls, T, NF)) {index k : Nat} (hg : GoodIn wl (wsV own index y.cls y (Cond.code y bytes maxL (some .long) :: wl)) ∧ y.cls = y.cls ∧ y.cls ≠ "java/lang/invoke/MethodHandle" ∧ y.cls ≠ "java/lang/invoke/VarHandle" ∧ (parseMethodDescriptor y.desc).map (fun d => d.parameters.length) = some k) (hR : rm.cells = 0 ∧ rm.slots = 0 ∧ rm.frames + 1 ≤ R.frames ∧ 8 + (maxL + 11) + rm.locals ≤ R.locals) (hcs : K + 0 ≤ R.cells ∧ N + 0 ≤ R.slots) (hk : As.length = k) (hl : ls.size = nL) (hrm : (rest.map fun v => v.category).sum ≤ 8) {st : List Value} (hst : st = As.reverse ++ .ref b :: rest) (hdg : decode cc pc = .ok (.invokevirtual index, 3))
    (kk : ∀ (H : Heap) (locs : List Loc), St D A s (wo ++ wb) H locs → W p l e R s m args below meth c H locs K N Q (F0 m (pc + 3) ls (.long r :: rest))) : W p l e R s m args below meth c H locs K N Q (F0 m pc ls st) := by
  subst hst
  have hPa := va_Pl hG.1
  have hPb := va_Pr hG.1
  have hDa := va_Dl hG.2.1
  have hDb := va_Dr hG.2.1
  have hX := fun (i j : Nat) (p q : Nat × va_E) (h1 : wa[i]? = some p) (h2 : wb[j]? = some q) => va_Dx hG.2.1 h1 h2
  have hFc : ∀ q, va_A wa H.size q → A q := by
    intro q h
    rcases h with ⟨k, e, h⟩ | h
    · exact hDa.2 k (q, e) h
    · exact hc.2.2.2.2.2.2.1 q (Nat.le_trans hG.2.2.1 h)
  refine va_calll (va_runV (As := As) (rest := rest) ⟨hc.1, hc.2.1, hc.2.2.1, hc.2.2.2.1, hc.2.2.2.2.1⟩ (hM H.size) (cwV k hc.2.2.2.2.1 hg.1 rfl hR.1 hR.2.1 hg.2 hR.2.2) ⟨PreC.blind, va_recv hc.2.2.2.2.2.1 hPa hcl he, fun U hU hW => ⟨rfl, x_pre hc hG hPa hDa hFc U hU hW⟩⟩ rfl hk hl rfl (lv_room hrm) hdg hcs) hG.2.2 (fun q _ h => hFc q h) hFc (fun r1 u t H1 locs1 ht hvm hw hB hz1 hk1 hS => ?_)
  subst hw
  obtain ⟨hP1, hK1, hD1⟩ := hB
  rw [ht] at hP1
  have hD2 := hD1.weaken (B := A) (fun _ _ _ h => hFc _ h)
  exact kk H1 locs1 ⟨va_Papp hP1 (va_stay hPb hX hk1), hD2.app hDb (va_apart2 hPb hX hD1), hS⟩
theorem y_viB (hc : Cx p s m args c D cI tL A cc nL own) {wa wb wo : va_W} (hG : St D A s (wa ++ wb) H locs) {y : MethodName} {bytes : ByteArray} {maxL : Nat} {ty : FieldType} {rm : Room} {b : Nat} {As : List Value} {r : Int32} (hM : Ci l D cI tL y bytes maxL ty rm wb (.ref b :: As) r wo)
    {ci : Nat} {fs : List Value} (he : wb[0]? = some (b, .inr (ci, fs))) {T : u_T} {NF : Nat} (hcl : vwCl[ci]? = some (y.cls, T, NF)) {index k : Nat} (hg : GoodIn wl (wsV own index y.cls y (Cond.code y bytes maxL (some ty) :: wl)) ∧ y.cls = y.cls ∧ y.cls ≠ "java/lang/invoke/MethodHandle" ∧ y.cls ≠ "java/lang/invoke/VarHandle" ∧ (parseMethodDescriptor y.desc).map (fun d => d.parameters.length) = some k) (hR : rm.cells = 0 ∧ rm.slots = 0 ∧ rm.frames + 1 ≤ R.frames ∧ 8 + (maxL + 11) + rm.locals ≤ R.locals) (hcs : K + 0 ≤ R.cells ∧ N + 0 ≤ R.slots) (hk : As.length = k) (hl : ls.size = nL) (hrm : (rest.map fun v => v.category).sum ≤ 8) {st : List Value} (hst : st = As.reverse ++ .ref b :: rest) (hdg : decode cc pc = .ok (.invokevirtual index, 3))
    (kk : ∀ (H : Heap) (locs : List Loc), St D A s (wa ++ wo) H locs → W p l e R s m args below meth c H locs K N Q (F0 m (pc + 3) ls (.int r :: rest))) : W p l e R s m args below meth c H locs K N Q (F0 m pc ls st) := by
  subst hst
  have hPa := va_Pl hG.1
  have hPb := va_Pr hG.1
  have hDa := va_Dl hG.2.1
  have hDb := va_Dr hG.2.1
  have hX := fun (i j : Nat) (p q : Nat × va_E) (h1 : wa[i]? = some p) (h2 : wb[j]? = some q) => va_Dx hG.2.1 h1 h2
  have hFc : ∀ q, va_A wb H.size q → A q := by
    intro q h
    rcases h with ⟨k, e, h⟩ | h
    · exact hDb.2 k (q, e) h
    · exact hc.2.2.2.2.2.2.1 q (Nat.le_trans hG.2.2.1 h)
  refine va_calli (va_runV (As := As) (rest := rest) ⟨hc.1, hc.2.1, hc.2.2.1, hc.2.2.2.1, hc.2.2.2.2.1⟩ (hM H.size) (cwV k hc.2.2.2.2.1 hg.1 rfl hR.1 hR.2.1 hg.2 hR.2.2) ⟨PreC.blind, va_recv hc.2.2.2.2.2.1 hPb hcl he, fun U hU hW => ⟨rfl, x_pre hc hG hPb hDb hFc U hU hW⟩⟩ rfl hk hl rfl (lv_room hrm) hdg hcs) hG.2.2 (fun q _ h => hFc q h) hFc (fun r1 u t H1 locs1 ht hvm hw hB hz1 hk1 hS => ?_)
  subst hw
  obtain ⟨hP1, hK1, hD1⟩ := hB
  rw [ht] at hP1
  have hD2 := hD1.weaken (B := A) (fun _ _ _ h => hFc _ h)
  have hX' : ∀ (i j : Nat) (p q : Nat × va_E), wb[i]? = some p → wa[j]? = some q → p.1 ≠ q.1 := fun i j p q h1 h2 e => hX j i q p h2 h1 e.symm
  exact kk H1 locs1 ⟨va_Papp (va_stay hPa hX' hk1) hP1, hDa.app hD2 (fun i j p q h1 h2 e => va_apart2 hPa hX' hD1 j i q p h2 h1 e.symm), hS⟩
theorem y_vlB (hc : Cx p s m args c D cI tL A cc nL own) {wa wb wo : va_W} (hG : St D A s (wa ++ wb) H locs) {y : MethodName} {bytes : ByteArray} {maxL : Nat} {rm : Room} {b : Nat} {As : List Value} {r : Int64} (hM : Cl l D cI tL y bytes maxL rm wb (.ref b :: As) r wo)
    {ci : Nat} {fs : List Value} (he : wb[0]? = some (b, .inr (ci, fs))) {T : u_T} {NF : Nat} (hcl : vwCl[ci]? = some (y.cls, T, NF)) {index k : Nat} (hg : GoodIn wl (wsV own index y.cls y (Cond.code y bytes maxL (some .long) :: wl)) ∧ y.cls = y.cls ∧ y.cls ≠ "java/lang/invoke/MethodHandle" ∧ y.cls ≠ "java/lang/invoke/VarHandle" ∧ (parseMethodDescriptor y.desc).map (fun d => d.parameters.length) = some k) (hR : rm.cells = 0 ∧ rm.slots = 0 ∧ rm.frames + 1 ≤ R.frames ∧ 8 + (maxL + 11) + rm.locals ≤ R.locals) (hcs : K + 0 ≤ R.cells ∧ N + 0 ≤ R.slots) (hk : As.length = k) (hl : ls.size = nL) (hrm : (rest.map fun v => v.category).sum ≤ 8) {st : List Value} (hst : st = As.reverse ++ .ref b :: rest) (hdg : decode cc pc = .ok (.invokevirtual index, 3))
    (kk : ∀ (H : Heap) (locs : List Loc), St D A s (wa ++ wo) H locs → W p l e R s m args below meth c H locs K N Q (F0 m (pc + 3) ls (.long r :: rest))) : W p l e R s m args below meth c H locs K N Q (F0 m pc ls st) := by
  subst hst
  have hPa := va_Pl hG.1
  have hPb := va_Pr hG.1
  have hDa := va_Dl hG.2.1
  have hDb := va_Dr hG.2.1
  have hX := fun (i j : Nat) (p q : Nat × va_E) (h1 : wa[i]? = some p) (h2 : wb[j]? = some q) => va_Dx hG.2.1 h1 h2
  have hFc : ∀ q, va_A wb H.size q → A q := by
    intro q h
    rcases h with ⟨k, e, h⟩ | h
    · exact hDb.2 k (q, e) h
    · exact hc.2.2.2.2.2.2.1 q (Nat.le_trans hG.2.2.1 h)
  refine va_calll (va_runV (As := As) (rest := rest) ⟨hc.1, hc.2.1, hc.2.2.1, hc.2.2.2.1, hc.2.2.2.2.1⟩ (hM H.size) (cwV k hc.2.2.2.2.1 hg.1 rfl hR.1 hR.2.1 hg.2 hR.2.2) ⟨PreC.blind, va_recv hc.2.2.2.2.2.1 hPb hcl he, fun U hU hW => ⟨rfl, x_pre hc hG hPb hDb hFc U hU hW⟩⟩ rfl hk hl rfl (lv_room hrm) hdg hcs) hG.2.2 (fun q _ h => hFc q h) hFc (fun r1 u t H1 locs1 ht hvm hw hB hz1 hk1 hS => ?_)
  subst hw
  obtain ⟨hP1, hK1, hD1⟩ := hB
  rw [ht] at hP1
  have hD2 := hD1.weaken (B := A) (fun _ _ _ h => hFc _ h)
  have hX' : ∀ (i j : Nat) (p q : Nat × va_E), wb[i]? = some p → wa[j]? = some q → p.1 ≠ q.1 := fun i j p q h1 h2 e => hX j i q p h2 h1 e.symm
  exact kk H1 locs1 ⟨va_Papp (va_stay hPa hX' hk1) hP1, hDa.app hD2 (fun i j p q h1 h2 e => va_apart2 hPa hX' hD1 j i q p h2 h1 e.symm), hS⟩
theorem x_swG {cc : ByteArray} (hexec : p.tables.exec = Jvm.exec) (hb : c.code = cc) {dflt lo hi : Int} {offs : Array Int} {len : Nat} {x k : Int32} {off : Int} {tgt : Nat} (hdg : decode cc pc = .ok (.tableswitch dflt lo hi offs, len)) (hk : x = k) (h1 : ¬ k.toInt < lo) (h2 : ¬ hi < k.toInt) (ho : offs[(k.toInt - lo).toNat]? = some off) (ht : (pc : Int) + off = (tgt : Int))
    (kk : W p l e R s m args below meth c H locs K N Q (F0 m tgt ls rest)) : W p l e R s m args below meth c H locs K N Q (F0 m pc ls (.int x :: rest)) := by
  subst hk
  exact lv_tableIn hexec hb hdg h1 h2 ho ht kk
theorem x_swH {cc : ByteArray} (hexec : p.tables.exec = Jvm.exec) (hb : c.code = cc) {dflt lo hi : Int} {offs : Array Int} {len : Nat} {x : Int32} {tgt : Nat} (hdg : decode cc pc = .ok (.tableswitch dflt lo hi offs, len)) (ks : List Int) (hs : offs.size = (hi - lo + 1).toNat ∧ (List.range offs.size).all (fun j => offs[j]? == some dflt || ks.contains (lo + j)) = true) (hne : ∀ k ∈ ks, ¬ x.toInt = k) (ht : (pc : Int) + dflt = (tgt : Int))
    (kk : W p l e R s m args below meth c H locs K N Q (F0 m tgt ls rest)) : W p l e R s m args below meth c H locs K N Q (F0 m pc ls (.int x :: rest)) := by
  by_cases h1 : x.toInt < lo
  · exact lv_tableOut hexec hb hdg (Or.inl h1) ht kk
  by_cases h2 : hi < x.toInt
  · exact lv_tableOut hexec hb hdg (Or.inr h2) ht kk
  have hlt : (x.toInt - lo).toNat < offs.size := by rw [hs.1]; omega
  have h3 := List.all_eq_true.mp hs.2 _ (List.mem_range.mpr hlt)
  rw [Bool.or_eq_true] at h3
  rcases h3 with h3 | h3
  · exact lv_tableIn hexec hb hdg h1 h2 (eq_of_beq h3) ht kk
  · rw [List.contains_iff_mem] at h3
    exact absurd (by omega) (hne _ h3)
end
def Step_row (Rel : CS → MS → Prop) : Prop := ∀ c d, Rel c d → ∀ x1 x2 : Int32, ∃ r c' d', F4_row c x1 x2 = some (r, c') ∧ F5_row d x1 x2 = some (r, d') ∧ Rel c' d'
def Step_lay (Rel : CS → MS → Prop) : Prop := ∀ c d, Rel c d → ∀ x1 x2 x3 : Int32, ∃ r c' d', F4_lay c x1 x2 x3 = some (r, c') ∧ F5_lay d x1 x2 x3 = some (r, d') ∧ Rel c' d'
def Step_at (Rel : CS → MS → Prop) : Prop := ∀ c d, Rel c d → ∀ x1 x2 : Int32, ∃ r c' d', F4_at c x1 x2 = some (r, c') ∧ F5_at d x1 x2 = some (r, d') ∧ Rel c' d'
def Step_tear (Rel : CS → MS → Prop) : Prop := ∀ c d, Rel c d → ∀ x1 : Int32, ∃ r c' d', F4_tear c x1 = some (r, c') ∧ F5_tear d x1 = some (r, d') ∧ Rel c' d'
def Step_copy (Rel : CS → MS → Prop) : Prop := ∀ c d, Rel c d → ∀ x1 x2 x3 x4 x5 : Int32, ∃ r c' d', F4_copy c x1 x2 x3 x4 x5 = some (r, c') ∧ F5_copy d x1 x2 x3 x4 x5 = some (r, d') ∧ Rel c' d'
def Step_mean (Rel : CS → MS → Prop) : Prop := ∀ c d, Rel c d → ∀ x1 : Int32, ∃ r c' d', F4_mean c x1 = some (r, c') ∧ F5_mean d x1 = some (r, d') ∧ Rel c' d'
def Step_text (Rel : CS → MS → Prop) : Prop := ∀ c d, Rel c d → ∀ x1 x2 : Int32, ∃ r c' d', F4_text c x1 x2 = some (r, c') ∧ F5_text d x1 x2 = some (r, d') ∧ Rel c' d'
def Step_put (Rel : CS → MS → Prop) : Prop := ∀ c d, Rel c d → ∀ x1 x2 x3 : Int32, ∃ r c' d', F4_put c x1 x2 x3 = some (r, c') ∧ F5_put d x1 x2 x3 = some (r, d') ∧ Rel c' d'
def Step_fault (Rel : CS → MS → Prop) : Prop := ∀ c d, Rel c d → ∀ x1 : Int32, ∃ r c' d', F4_fault c x1 = some (r, c') ∧ F5_fault d x1 = some (r, d') ∧ Rel c' d'
def Step_slice (Rel : CS → MS → Prop) : Prop := ∀ c d, Rel c d → ∀ x1 : Int32, ∃ r c' d', F4_slice c x1 = some (r, c') ∧ F5_slice d x1 = some (r, d') ∧ Rel c' d'
def Step_peel (Rel : CS → MS → Prop) : Prop := ∀ c d, Rel c d → ∀ x1 x2 : Int32, ∃ r c' d', F4_peel c x1 x2 = some (r, c') ∧ F5_peel d x1 x2 = some (r, d') ∧ Rel c' d'
def Step_mark (Rel : CS → MS → Prop) : Prop := ∀ c d, Rel c d → ∀ x1 x2 : Int32, ∃ r c' d', F4_mark c x1 x2 = some (r, c') ∧ F5_mark d x1 x2 = some (r, d') ∧ Rel c' d'
def Step_morning (Rel : CS → MS → Prop) : Prop := ∀ c d, Rel c d → ∃ r c' d', F4_morning c = some (r, c') ∧ F5_morning d = some (r, d') ∧ Rel c' d'
def Step_shift (Rel : CS → MS → Prop) : Prop := ∀ c d, Rel c d → ∀ x1 x2 : Int32, ∃ r c' d', F4_shift c x1 x2 = some (r, c') ∧ F5_shift d x1 x2 = some (r, d') ∧ Rel c' d'
def Step_turn (Rel : CS → MS → Prop) : Prop := ∀ c d, Rel c d → ∀ x1 : Int32, ∃ r c' d', F4_turn c x1 = some (r, c') ∧ F5_turn d x1 = some (r, d') ∧ Rel c' d'
def Step_lift (Rel : CS → MS → Prop) : Prop := ∀ c d, Rel c d → ∀ x1 : Int32, ∃ r c' d', F4_lift c x1 = some (r, c') ∧ F5_lift d x1 = some (r, d') ∧ Rel c' d'
def Step_lick (Rel : CS → MS → Prop) : Prop := ∀ c d, Rel c d → ∀ x1 : Int32, ∃ r c' d', F4_lick c x1 = some (r, c') ∧ F5_lick d x1 = some (r, d') ∧ Rel c' d'
def Step_undo (Rel : CS → MS → Prop) : Prop := ∀ c d, Rel c d → ∀ x1 : Int32, ∃ r c' d', F4_undo c x1 = some (r, c') ∧ F5_undo d x1 = some (r, d') ∧ Rel c' d'
def Step_keep (Rel : CS → MS → Prop) : Prop := ∀ c d, Rel c d → ∀ x1 : Int32, ∃ r c' d', F4_keep c x1 = some (r, c') ∧ F5_keep d x1 = some (r, d') ∧ Rel c' d'
def Step_on (Rel : CS → MS → Prop) : Prop := ∀ c d, Rel c d → ∀ x1 : Int32, ∃ r c' d', F4_on c x1 = some (r, c') ∧ F5_on d x1 = some (r, d') ∧ Rel c' d'
def Step_covers (Rel : CS → MS → Prop) : Prop := ∀ c d, Rel c d → ∀ x1 x2 x3 : Int32, ∃ r c' d', F4_covers c x1 x2 x3 = some (r, c') ∧ F5_covers d x1 x2 x3 = some (r, d') ∧ Rel c' d'
def Step_covered (Rel : CS → MS → Prop) : Prop := ∀ c d, Rel c d → ∃ r c' d', F4_covered c = some (r, c') ∧ F5_covered d = some (r, d') ∧ Rel c' d'
def Step_weighs (Rel : CS → MS → Prop) : Prop := ∀ c d, Rel c d → ∀ x1 : Int32, ∃ r c' d', F4_weighs c x1 = some (r, c') ∧ F5_weighs d x1 = some (r, d') ∧ Rel c' d'
def Step_reads (Rel : CS → MS → Prop) : Prop := ∀ c d, Rel c d → ∀ x1 : Int32, ∃ r c' d', F4_reads c x1 = some (r, c') ∧ F5_reads d x1 = some (r, d') ∧ Rel c' d'
def Step_first (Rel : CS → MS → Prop) : Prop := ∀ c d, Rel c d → ∀ x1 : Int32, ∃ r c' d', F4_first c x1 = some (r, c') ∧ F5_first d x1 = some (r, d') ∧ Rel c' d'
def Step_found (Rel : CS → MS → Prop) : Prop := ∀ c d, Rel c d → ∀ x1 x2 : Int32, ∃ r c' d', F4_found c x1 x2 = some (r, c') ∧ F5_found d x1 x2 = some (r, d') ∧ Rel c' d'
def Step_best (Rel : CS → MS → Prop) : Prop := ∀ c d, Rel c d → ∀ x1 : Int32, ∃ r c' d', F4_best c x1 = some (r, c') ∧ F5_best d x1 = some (r, d') ∧ Rel c' d'
def Step_gap (Rel : CS → MS → Prop) : Prop := ∀ c d, Rel c d → ∀ x1 : Int32, ∃ r c' d', F4_gap c x1 = some (r, c') ∧ F5_gap d x1 = some (r, d') ∧ Rel c' d'
def Step_sure (Rel : CS → MS → Prop) : Prop := ∀ c d, Rel c d → ∀ x1 : Int32, ∃ r c' d', F4_sure c x1 = some (r, c') ∧ F5_sure d x1 = some (r, d') ∧ Rel c' d'
def Step_places (Rel : CS → MS → Prop) : Prop := ∀ c d, Rel c d → ∀ x1 x2 : Int32, ∃ r c' d', F4_places c x1 x2 = some (r, c') ∧ F5_places d x1 x2 = some (r, d') ∧ Rel c' d'
def Step_kinds (Rel : CS → MS → Prop) : Prop := ∀ c d, Rel c d → ∀ x1 x2 : Int32, ∃ r c' d', F4_kinds c x1 x2 = some (r, c') ∧ F5_kinds d x1 x2 = some (r, d') ∧ Rel c' d'
def Step_next (Rel : CS → MS → Prop) : Prop := ∀ c d, Rel c d → ∀ x1 x2 : Int32, ∃ r c' d', F4_next c x1 x2 = some (r, c') ∧ F5_next d x1 x2 = some (r, d') ∧ Rel c' d'
def Step_sets (Rel : CS → MS → Prop) : Prop := ∀ c d, Rel c d → ∀ x1 : Int32, ∃ r c' d', F4_sets c x1 = some (r, c') ∧ F5_sets d x1 = some (r, d') ∧ Rel c' d'
def Step_surely (Rel : CS → MS → Prop) : Prop := ∀ c d, Rel c d → ∀ x1 : Int32, ∃ r c' d', F4_surely c x1 = some (r, c') ∧ F5_surely d x1 = some (r, d') ∧ Rel c' d'
def Step_duel (Rel : CS → MS → Prop) : Prop := ∀ c d, Rel c d → ∀ x1 : Int32, ∃ r c' d', F4_duel c x1 = some (r, c') ∧ F5_duel d x1 = some (r, d') ∧ Rel c' d'
def Step_odds (Rel : CS → MS → Prop) : Prop := ∀ c d, Rel c d → ∀ x1 x2 : Int32, ∃ r c' d', F4_odds c x1 x2 = some (r, c') ∧ F5_odds d x1 x2 = some (r, d') ∧ Rel c' d'
def Step_mid (Rel : CS → MS → Prop) : Prop := ∀ c d, Rel c d → ∀ x1 : Int32, ∃ r c' d', F4_mid c x1 = some (r, c') ∧ F5_mid d x1 = some (r, d') ∧ Rel c' d'
def Step_lots (Rel : CS → MS → Prop) : Prop := ∀ c d, Rel c d → ∀ x1 x2 : Int32, ∃ r c' d', F4_lots c x1 x2 = some (r, c') ∧ F5_lots d x1 x2 = some (r, d') ∧ Rel c' d'
def Step_asked (Rel : CS → MS → Prop) : Prop := ∀ c d, Rel c d → ∃ r c' d', F4_asked c = some (r, c') ∧ F5_asked d = some (r, d') ∧ Rel c' d'
def Step_upper (Rel : CS → MS → Prop) : Prop := ∀ c d, Rel c d → ∃ r c' d', F4_upper c = some (r, c') ∧ F5_upper d = some (r, d') ∧ Rel c' d'
def Step_lower (Rel : CS → MS → Prop) : Prop := ∀ c d, Rel c d → ∃ r c' d', F4_lower c = some (r, c') ∧ F5_lower d = some (r, d') ∧ Rel c' d'
def Step_count (Rel : CS → MS → Prop) : Prop := ∀ c d, Rel c d → ∀ x1 : Int32, ∃ r c' d', F4_count c x1 = some (r, c') ∧ F5_count d x1 = some (r, d') ∧ Rel c' d'
def Step_finding (Rel : CS → MS → Prop) : Prop := ∀ c d, Rel c d → ∃ r c' d', F4_finding c = some (r, c') ∧ F5_finding d = some (r, d') ∧ Rel c' d'
def Step_findings (Rel : CS → MS → Prop) : Prop := ∀ c d, Rel c d → ∀ x1 : Int32, ∃ r c' d', F4_findings c x1 = some (r, c') ∧ F5_findings d x1 = some (r, d') ∧ Rel c' d'
def Step_digest (Rel : CS → MS → Prop) : Prop := ∀ c d, Rel c d → ∃ r c' d', F4_digest c = some (r, c') ∧ F5_digest d = some (r, d') ∧ Rel c' d'
theorem lL_13 : GoodIn wl (wsV RL 13 yX4_row.cls yX4_row (Cond.code yX4_row cX4_row 3 (some .int) :: wl)) ∧ yX4_row.cls = yX4_row.cls ∧ yX4_row.cls ≠ "java/lang/invoke/MethodHandle" ∧ yX4_row.cls ≠ "java/lang/invoke/VarHandle" ∧ (parseMethodDescriptor yX4_row.desc).map (fun d => d.parameters.length) = some 2 := ⟨wl_V (wl_at 232 (by decide +kernel) rfl) (wl_at 233 (by decide +kernel) rfl) (wl_at 234 (by decide +kernel) rfl) (wl_at 61 (by decide +kernel) rfl) (wl_at 235 (by decide +kernel) rfl), rfl, by decide +kernel, by decide +kernel, by decide +kernel⟩
theorem lL_17 : GoodIn wl (wsV RL 17 yX5_row.cls yX5_row (Cond.code yX5_row cX5_row 4 (some .int) :: wl)) ∧ yX5_row.cls = yX5_row.cls ∧ yX5_row.cls ≠ "java/lang/invoke/MethodHandle" ∧ yX5_row.cls ≠ "java/lang/invoke/VarHandle" ∧ (parseMethodDescriptor yX5_row.desc).map (fun d => d.parameters.length) = some 2 := ⟨wl_V (wl_at 844 (by decide +kernel) rfl) (wl_at 845 (by decide +kernel) rfl) (wl_at 846 (by decide +kernel) rfl) (wl_at 66 (by decide +kernel) rfl) (wl_at 847 (by decide +kernel) rfl), rfl, by decide +kernel, by decide +kernel, by decide +kernel⟩
theorem lL_18 : GoodIn wl (wsV RL 18 yX4_lay.cls yX4_lay (Cond.code yX4_lay cX4_lay 5 (some .int) :: wl)) ∧ yX4_lay.cls = yX4_lay.cls ∧ yX4_lay.cls ≠ "java/lang/invoke/MethodHandle" ∧ yX4_lay.cls ≠ "java/lang/invoke/VarHandle" ∧ (parseMethodDescriptor yX4_lay.desc).map (fun d => d.parameters.length) = some 3 := ⟨wl_V (wl_at 246 (by decide +kernel) rfl) (wl_at 247 (by decide +kernel) rfl) (wl_at 248 (by decide +kernel) rfl) (wl_at 61 (by decide +kernel) rfl) (wl_at 249 (by decide +kernel) rfl), rfl, by decide +kernel, by decide +kernel, by decide +kernel⟩
theorem lL_22 : GoodIn wl (wsV RL 22 yX5_lay.cls yX5_lay (Cond.code yX5_lay cX5_lay 5 (some .int) :: wl)) ∧ yX5_lay.cls = yX5_lay.cls ∧ yX5_lay.cls ≠ "java/lang/invoke/MethodHandle" ∧ yX5_lay.cls ≠ "java/lang/invoke/VarHandle" ∧ (parseMethodDescriptor yX5_lay.desc).map (fun d => d.parameters.length) = some 3 := ⟨wl_V (wl_at 858 (by decide +kernel) rfl) (wl_at 859 (by decide +kernel) rfl) (wl_at 860 (by decide +kernel) rfl) (wl_at 66 (by decide +kernel) rfl) (wl_at 861 (by decide +kernel) rfl), rfl, by decide +kernel, by decide +kernel, by decide +kernel⟩
theorem lL_23 : GoodIn wl (wsV RL 23 yX4_at.cls yX4_at (Cond.code yX4_at cX4_at 3 (some .int) :: wl)) ∧ yX4_at.cls = yX4_at.cls ∧ yX4_at.cls ≠ "java/lang/invoke/MethodHandle" ∧ yX4_at.cls ≠ "java/lang/invoke/VarHandle" ∧ (parseMethodDescriptor yX4_at.desc).map (fun d => d.parameters.length) = some 2 := ⟨wl_V (wl_at 275 (by decide +kernel) rfl) (wl_at 276 (by decide +kernel) rfl) (wl_at 277 (by decide +kernel) rfl) (wl_at 61 (by decide +kernel) rfl) (wl_at 278 (by decide +kernel) rfl), rfl, by decide +kernel, by decide +kernel, by decide +kernel⟩
theorem lL_26 : GoodIn wl (wsV RL 26 yX5_at.cls yX5_at (Cond.code yX5_at cX5_at 3 (some .int) :: wl)) ∧ yX5_at.cls = yX5_at.cls ∧ yX5_at.cls ≠ "java/lang/invoke/MethodHandle" ∧ yX5_at.cls ≠ "java/lang/invoke/VarHandle" ∧ (parseMethodDescriptor yX5_at.desc).map (fun d => d.parameters.length) = some 2 := ⟨wl_V (wl_at 866 (by decide +kernel) rfl) (wl_at 867 (by decide +kernel) rfl) (wl_at 868 (by decide +kernel) rfl) (wl_at 66 (by decide +kernel) rfl) (wl_at 869 (by decide +kernel) rfl), rfl, by decide +kernel, by decide +kernel, by decide +kernel⟩
theorem lL_27 : GoodIn wl (wsV RL 27 yX4_tear.cls yX4_tear (Cond.code yX4_tear cX4_tear 2 (some .int) :: wl)) ∧ yX4_tear.cls = yX4_tear.cls ∧ yX4_tear.cls ≠ "java/lang/invoke/MethodHandle" ∧ yX4_tear.cls ≠ "java/lang/invoke/VarHandle" ∧ (parseMethodDescriptor yX4_tear.desc).map (fun d => d.parameters.length) = some 1 := ⟨wl_V (wl_at 279 (by decide +kernel) rfl) (wl_at 280 (by decide +kernel) rfl) (wl_at 281 (by decide +kernel) rfl) (wl_at 61 (by decide +kernel) rfl) (wl_at 282 (by decide +kernel) rfl), rfl, by decide +kernel, by decide +kernel, by decide +kernel⟩
theorem lL_31 : GoodIn wl (wsV RL 31 yX5_tear.cls yX5_tear (Cond.code yX5_tear cX5_tear 2 (some .int) :: wl)) ∧ yX5_tear.cls = yX5_tear.cls ∧ yX5_tear.cls ≠ "java/lang/invoke/MethodHandle" ∧ yX5_tear.cls ≠ "java/lang/invoke/VarHandle" ∧ (parseMethodDescriptor yX5_tear.desc).map (fun d => d.parameters.length) = some 1 := ⟨wl_V (wl_at 870 (by decide +kernel) rfl) (wl_at 871 (by decide +kernel) rfl) (wl_at 872 (by decide +kernel) rfl) (wl_at 66 (by decide +kernel) rfl) (wl_at 873 (by decide +kernel) rfl), rfl, by decide +kernel, by decide +kernel, by decide +kernel⟩
theorem lL_32 : GoodIn wl (wsV RL 32 yX4_copy.cls yX4_copy (Cond.code yX4_copy cX4_copy 6 (some .int) :: wl)) ∧ yX4_copy.cls = yX4_copy.cls ∧ yX4_copy.cls ≠ "java/lang/invoke/MethodHandle" ∧ yX4_copy.cls ≠ "java/lang/invoke/VarHandle" ∧ (parseMethodDescriptor yX4_copy.desc).map (fun d => d.parameters.length) = some 5 := ⟨wl_V (wl_at 287 (by decide +kernel) rfl) (wl_at 288 (by decide +kernel) rfl) (wl_at 289 (by decide +kernel) rfl) (wl_at 61 (by decide +kernel) rfl) (wl_at 290 (by decide +kernel) rfl), rfl, by decide +kernel, by decide +kernel, by decide +kernel⟩
theorem lL_36 : GoodIn wl (wsV RL 36 yX5_copy.cls yX5_copy (Cond.code yX5_copy cX5_copy 7 (some .int) :: wl)) ∧ yX5_copy.cls = yX5_copy.cls ∧ yX5_copy.cls ≠ "java/lang/invoke/MethodHandle" ∧ yX5_copy.cls ≠ "java/lang/invoke/VarHandle" ∧ (parseMethodDescriptor yX5_copy.desc).map (fun d => d.parameters.length) = some 5 := ⟨wl_V (wl_at 874 (by decide +kernel) rfl) (wl_at 875 (by decide +kernel) rfl) (wl_at 876 (by decide +kernel) rfl) (wl_at 66 (by decide +kernel) rfl) (wl_at 877 (by decide +kernel) rfl), rfl, by decide +kernel, by decide +kernel, by decide +kernel⟩
theorem lL_37 : GoodIn wl (wsV RL 37 yX4_mean.cls yX4_mean (Cond.code yX4_mean cX4_mean 6 (some .int) :: wl)) ∧ yX4_mean.cls = yX4_mean.cls ∧ yX4_mean.cls ≠ "java/lang/invoke/MethodHandle" ∧ yX4_mean.cls ≠ "java/lang/invoke/VarHandle" ∧ (parseMethodDescriptor yX4_mean.desc).map (fun d => d.parameters.length) = some 1 := ⟨wl_V (wl_at 303 (by decide +kernel) rfl) (wl_at 304 (by decide +kernel) rfl) (wl_at 305 (by decide +kernel) rfl) (wl_at 61 (by decide +kernel) rfl) (wl_at 306 (by decide +kernel) rfl), rfl, by decide +kernel, by decide +kernel, by decide +kernel⟩
theorem lL_40 : GoodIn wl (wsV RL 40 yX5_mean.cls yX5_mean (Cond.code yX5_mean cX5_mean 5 (some .int) :: wl)) ∧ yX5_mean.cls = yX5_mean.cls ∧ yX5_mean.cls ≠ "java/lang/invoke/MethodHandle" ∧ yX5_mean.cls ≠ "java/lang/invoke/VarHandle" ∧ (parseMethodDescriptor yX5_mean.desc).map (fun d => d.parameters.length) = some 1 := ⟨wl_V (wl_at 882 (by decide +kernel) rfl) (wl_at 883 (by decide +kernel) rfl) (wl_at 884 (by decide +kernel) rfl) (wl_at 66 (by decide +kernel) rfl) (wl_at 885 (by decide +kernel) rfl), rfl, by decide +kernel, by decide +kernel, by decide +kernel⟩
theorem lL_41 : GoodIn wl (wsV RL 41 yX4_text.cls yX4_text (Cond.code yX4_text cX4_text 3 (some .int) :: wl)) ∧ yX4_text.cls = yX4_text.cls ∧ yX4_text.cls ≠ "java/lang/invoke/MethodHandle" ∧ yX4_text.cls ≠ "java/lang/invoke/VarHandle" ∧ (parseMethodDescriptor yX4_text.desc).map (fun d => d.parameters.length) = some 2 := ⟨wl_V (wl_at 308 (by decide +kernel) rfl) (wl_at 309 (by decide +kernel) rfl) (wl_at 310 (by decide +kernel) rfl) (wl_at 61 (by decide +kernel) rfl) (wl_at 311 (by decide +kernel) rfl), rfl, by decide +kernel, by decide +kernel, by decide +kernel⟩
theorem lL_44 : GoodIn wl (wsV RL 44 yX5_text.cls yX5_text (Cond.code yX5_text cX5_text 4 (some .int) :: wl)) ∧ yX5_text.cls = yX5_text.cls ∧ yX5_text.cls ≠ "java/lang/invoke/MethodHandle" ∧ yX5_text.cls ≠ "java/lang/invoke/VarHandle" ∧ (parseMethodDescriptor yX5_text.desc).map (fun d => d.parameters.length) = some 2 := ⟨wl_V (wl_at 886 (by decide +kernel) rfl) (wl_at 887 (by decide +kernel) rfl) (wl_at 888 (by decide +kernel) rfl) (wl_at 66 (by decide +kernel) rfl) (wl_at 889 (by decide +kernel) rfl), rfl, by decide +kernel, by decide +kernel, by decide +kernel⟩
theorem lL_45 : GoodIn wl (wsV RL 45 yX4_put.cls yX4_put (Cond.code yX4_put cX4_put 5 (some .int) :: wl)) ∧ yX4_put.cls = yX4_put.cls ∧ yX4_put.cls ≠ "java/lang/invoke/MethodHandle" ∧ yX4_put.cls ≠ "java/lang/invoke/VarHandle" ∧ (parseMethodDescriptor yX4_put.desc).map (fun d => d.parameters.length) = some 3 := ⟨wl_V (wl_at 315 (by decide +kernel) rfl) (wl_at 316 (by decide +kernel) rfl) (wl_at 317 (by decide +kernel) rfl) (wl_at 61 (by decide +kernel) rfl) (wl_at 318 (by decide +kernel) rfl), rfl, by decide +kernel, by decide +kernel, by decide +kernel⟩
theorem lL_48 : GoodIn wl (wsV RL 48 yX5_put.cls yX5_put (Cond.code yX5_put cX5_put 6 (some .int) :: wl)) ∧ yX5_put.cls = yX5_put.cls ∧ yX5_put.cls ≠ "java/lang/invoke/MethodHandle" ∧ yX5_put.cls ≠ "java/lang/invoke/VarHandle" ∧ (parseMethodDescriptor yX5_put.desc).map (fun d => d.parameters.length) = some 3 := ⟨wl_V (wl_at 893 (by decide +kernel) rfl) (wl_at 894 (by decide +kernel) rfl) (wl_at 895 (by decide +kernel) rfl) (wl_at 66 (by decide +kernel) rfl) (wl_at 896 (by decide +kernel) rfl), rfl, by decide +kernel, by decide +kernel, by decide +kernel⟩
theorem lL_49 : GoodIn wl (wsV RL 49 yX4_fault.cls yX4_fault (Cond.code yX4_fault cX4_fault 2 (some .int) :: wl)) ∧ yX4_fault.cls = yX4_fault.cls ∧ yX4_fault.cls ≠ "java/lang/invoke/MethodHandle" ∧ yX4_fault.cls ≠ "java/lang/invoke/VarHandle" ∧ (parseMethodDescriptor yX4_fault.desc).map (fun d => d.parameters.length) = some 1 := ⟨wl_V (wl_at 319 (by decide +kernel) rfl) (wl_at 320 (by decide +kernel) rfl) (wl_at 321 (by decide +kernel) rfl) (wl_at 61 (by decide +kernel) rfl) (wl_at 322 (by decide +kernel) rfl), rfl, by decide +kernel, by decide +kernel, by decide +kernel⟩
theorem lL_52 : GoodIn wl (wsV RL 52 yX5_fault.cls yX5_fault (Cond.code yX5_fault cX5_fault 2 (some .int) :: wl)) ∧ yX5_fault.cls = yX5_fault.cls ∧ yX5_fault.cls ≠ "java/lang/invoke/MethodHandle" ∧ yX5_fault.cls ≠ "java/lang/invoke/VarHandle" ∧ (parseMethodDescriptor yX5_fault.desc).map (fun d => d.parameters.length) = some 1 := ⟨wl_V (wl_at 897 (by decide +kernel) rfl) (wl_at 898 (by decide +kernel) rfl) (wl_at 899 (by decide +kernel) rfl) (wl_at 66 (by decide +kernel) rfl) (wl_at 900 (by decide +kernel) rfl), rfl, by decide +kernel, by decide +kernel, by decide +kernel⟩
theorem lL_53 : GoodIn wl (wsV RL 53 yX4_slice.cls yX4_slice (Cond.code yX4_slice cX4_slice 3 (some .int) :: wl)) ∧ yX4_slice.cls = yX4_slice.cls ∧ yX4_slice.cls ≠ "java/lang/invoke/MethodHandle" ∧ yX4_slice.cls ≠ "java/lang/invoke/VarHandle" ∧ (parseMethodDescriptor yX4_slice.desc).map (fun d => d.parameters.length) = some 1 := ⟨wl_V (wl_at 371 (by decide +kernel) rfl) (wl_at 372 (by decide +kernel) rfl) (wl_at 373 (by decide +kernel) rfl) (wl_at 61 (by decide +kernel) rfl) (wl_at 374 (by decide +kernel) rfl), rfl, by decide +kernel, by decide +kernel, by decide +kernel⟩
theorem lL_56 : GoodIn wl (wsV RL 56 yX5_slice.cls yX5_slice (Cond.code yX5_slice cX5_slice 3 (some .int) :: wl)) ∧ yX5_slice.cls = yX5_slice.cls ∧ yX5_slice.cls ≠ "java/lang/invoke/MethodHandle" ∧ yX5_slice.cls ≠ "java/lang/invoke/VarHandle" ∧ (parseMethodDescriptor yX5_slice.desc).map (fun d => d.parameters.length) = some 1 := ⟨wl_V (wl_at 936 (by decide +kernel) rfl) (wl_at 937 (by decide +kernel) rfl) (wl_at 938 (by decide +kernel) rfl) (wl_at 66 (by decide +kernel) rfl) (wl_at 939 (by decide +kernel) rfl), rfl, by decide +kernel, by decide +kernel, by decide +kernel⟩
theorem lL_57 : GoodIn wl (wsV RL 57 yX4_peel.cls yX4_peel (Cond.code yX4_peel cX4_peel 3 (some .int) :: wl)) ∧ yX4_peel.cls = yX4_peel.cls ∧ yX4_peel.cls ≠ "java/lang/invoke/MethodHandle" ∧ yX4_peel.cls ≠ "java/lang/invoke/VarHandle" ∧ (parseMethodDescriptor yX4_peel.desc).map (fun d => d.parameters.length) = some 2 := ⟨wl_V (wl_at 379 (by decide +kernel) rfl) (wl_at 380 (by decide +kernel) rfl) (wl_at 381 (by decide +kernel) rfl) (wl_at 61 (by decide +kernel) rfl) (wl_at 382 (by decide +kernel) rfl), rfl, by decide +kernel, by decide +kernel, by decide +kernel⟩
theorem lL_60 : GoodIn wl (wsV RL 60 yX5_peel.cls yX5_peel (Cond.code yX5_peel cX5_peel 3 (some .int) :: wl)) ∧ yX5_peel.cls = yX5_peel.cls ∧ yX5_peel.cls ≠ "java/lang/invoke/MethodHandle" ∧ yX5_peel.cls ≠ "java/lang/invoke/VarHandle" ∧ (parseMethodDescriptor yX5_peel.desc).map (fun d => d.parameters.length) = some 2 := ⟨wl_V (wl_at 943 (by decide +kernel) rfl) (wl_at 944 (by decide +kernel) rfl) (wl_at 945 (by decide +kernel) rfl) (wl_at 66 (by decide +kernel) rfl) (wl_at 946 (by decide +kernel) rfl), rfl, by decide +kernel, by decide +kernel, by decide +kernel⟩
theorem lL_61 : GoodIn wl (wsV RL 61 yX4_mark.cls yX4_mark (Cond.code yX4_mark cX4_mark 3 (some .int) :: wl)) ∧ yX4_mark.cls = yX4_mark.cls ∧ yX4_mark.cls ≠ "java/lang/invoke/MethodHandle" ∧ yX4_mark.cls ≠ "java/lang/invoke/VarHandle" ∧ (parseMethodDescriptor yX4_mark.desc).map (fun d => d.parameters.length) = some 2 := ⟨wl_V (wl_at 394 (by decide +kernel) rfl) (wl_at 395 (by decide +kernel) rfl) (wl_at 396 (by decide +kernel) rfl) (wl_at 61 (by decide +kernel) rfl) (wl_at 397 (by decide +kernel) rfl), rfl, by decide +kernel, by decide +kernel, by decide +kernel⟩
theorem lL_64 : GoodIn wl (wsV RL 64 yX5_mark.cls yX5_mark (Cond.code yX5_mark cX5_mark 4 (some .int) :: wl)) ∧ yX5_mark.cls = yX5_mark.cls ∧ yX5_mark.cls ≠ "java/lang/invoke/MethodHandle" ∧ yX5_mark.cls ≠ "java/lang/invoke/VarHandle" ∧ (parseMethodDescriptor yX5_mark.desc).map (fun d => d.parameters.length) = some 2 := ⟨wl_V (wl_at 973 (by decide +kernel) rfl) (wl_at 974 (by decide +kernel) rfl) (wl_at 975 (by decide +kernel) rfl) (wl_at 66 (by decide +kernel) rfl) (wl_at 976 (by decide +kernel) rfl), rfl, by decide +kernel, by decide +kernel, by decide +kernel⟩
theorem lL_65 : GoodIn wl (wsV RL 65 yX4_morning.cls yX4_morning (Cond.code yX4_morning cX4_morning 1 (some .int) :: wl)) ∧ yX4_morning.cls = yX4_morning.cls ∧ yX4_morning.cls ≠ "java/lang/invoke/MethodHandle" ∧ yX4_morning.cls ≠ "java/lang/invoke/VarHandle" ∧ (parseMethodDescriptor yX4_morning.desc).map (fun d => d.parameters.length) = some 0 := ⟨wl_V (wl_at 420 (by decide +kernel) rfl) (wl_at 421 (by decide +kernel) rfl) (wl_at 422 (by decide +kernel) rfl) (wl_at 61 (by decide +kernel) rfl) (wl_at 423 (by decide +kernel) rfl), rfl, by decide +kernel, by decide +kernel, by decide +kernel⟩
theorem lL_69 : GoodIn wl (wsV RL 69 yX5_morning.cls yX5_morning (Cond.code yX5_morning cX5_morning 1 (some .int) :: wl)) ∧ yX5_morning.cls = yX5_morning.cls ∧ yX5_morning.cls ≠ "java/lang/invoke/MethodHandle" ∧ yX5_morning.cls ≠ "java/lang/invoke/VarHandle" ∧ (parseMethodDescriptor yX5_morning.desc).map (fun d => d.parameters.length) = some 0 := ⟨wl_V (wl_at 991 (by decide +kernel) rfl) (wl_at 992 (by decide +kernel) rfl) (wl_at 993 (by decide +kernel) rfl) (wl_at 66 (by decide +kernel) rfl) (wl_at 994 (by decide +kernel) rfl), rfl, by decide +kernel, by decide +kernel, by decide +kernel⟩
theorem lL_70 : GoodIn wl (wsV RL 70 yX4_shift.cls yX4_shift (Cond.code yX4_shift cX4_shift 4 (some .int) :: wl)) ∧ yX4_shift.cls = yX4_shift.cls ∧ yX4_shift.cls ≠ "java/lang/invoke/MethodHandle" ∧ yX4_shift.cls ≠ "java/lang/invoke/VarHandle" ∧ (parseMethodDescriptor yX4_shift.desc).map (fun d => d.parameters.length) = some 2 := ⟨wl_V (wl_at 475 (by decide +kernel) rfl) (wl_at 476 (by decide +kernel) rfl) (wl_at 477 (by decide +kernel) rfl) (wl_at 61 (by decide +kernel) rfl) (wl_at 478 (by decide +kernel) rfl), rfl, by decide +kernel, by decide +kernel, by decide +kernel⟩
theorem lL_73 : GoodIn wl (wsV RL 73 yX5_shift.cls yX5_shift (Cond.code yX5_shift cX5_shift 4 (some .int) :: wl)) ∧ yX5_shift.cls = yX5_shift.cls ∧ yX5_shift.cls ≠ "java/lang/invoke/MethodHandle" ∧ yX5_shift.cls ≠ "java/lang/invoke/VarHandle" ∧ (parseMethodDescriptor yX5_shift.desc).map (fun d => d.parameters.length) = some 2 := ⟨wl_V (wl_at 1024 (by decide +kernel) rfl) (wl_at 1025 (by decide +kernel) rfl) (wl_at 1026 (by decide +kernel) rfl) (wl_at 66 (by decide +kernel) rfl) (wl_at 1027 (by decide +kernel) rfl), rfl, by decide +kernel, by decide +kernel, by decide +kernel⟩
theorem lL_74 : GoodIn wl (wsV RL 74 yX4_turn.cls yX4_turn (Cond.code yX4_turn cX4_turn 2 (some .int) :: wl)) ∧ yX4_turn.cls = yX4_turn.cls ∧ yX4_turn.cls ≠ "java/lang/invoke/MethodHandle" ∧ yX4_turn.cls ≠ "java/lang/invoke/VarHandle" ∧ (parseMethodDescriptor yX4_turn.desc).map (fun d => d.parameters.length) = some 1 := ⟨wl_V (wl_at 480 (by decide +kernel) rfl) (wl_at 481 (by decide +kernel) rfl) (wl_at 482 (by decide +kernel) rfl) (wl_at 61 (by decide +kernel) rfl) (wl_at 483 (by decide +kernel) rfl), rfl, by decide +kernel, by decide +kernel, by decide +kernel⟩
theorem lL_77 : GoodIn wl (wsV RL 77 yX5_turn.cls yX5_turn (Cond.code yX5_turn cX5_turn 2 (some .int) :: wl)) ∧ yX5_turn.cls = yX5_turn.cls ∧ yX5_turn.cls ≠ "java/lang/invoke/MethodHandle" ∧ yX5_turn.cls ≠ "java/lang/invoke/VarHandle" ∧ (parseMethodDescriptor yX5_turn.desc).map (fun d => d.parameters.length) = some 1 := ⟨wl_V (wl_at 1028 (by decide +kernel) rfl) (wl_at 1029 (by decide +kernel) rfl) (wl_at 1030 (by decide +kernel) rfl) (wl_at 66 (by decide +kernel) rfl) (wl_at 1031 (by decide +kernel) rfl), rfl, by decide +kernel, by decide +kernel, by decide +kernel⟩
theorem lL_78 : GoodIn wl (wsV RL 78 yX4_lift.cls yX4_lift (Cond.code yX4_lift cX4_lift 2 (some .int) :: wl)) ∧ yX4_lift.cls = yX4_lift.cls ∧ yX4_lift.cls ≠ "java/lang/invoke/MethodHandle" ∧ yX4_lift.cls ≠ "java/lang/invoke/VarHandle" ∧ (parseMethodDescriptor yX4_lift.desc).map (fun d => d.parameters.length) = some 1 := ⟨wl_V (wl_at 485 (by decide +kernel) rfl) (wl_at 486 (by decide +kernel) rfl) (wl_at 487 (by decide +kernel) rfl) (wl_at 61 (by decide +kernel) rfl) (wl_at 488 (by decide +kernel) rfl), rfl, by decide +kernel, by decide +kernel, by decide +kernel⟩
theorem lL_81 : GoodIn wl (wsV RL 81 yX5_lift.cls yX5_lift (Cond.code yX5_lift cX5_lift 2 (some .int) :: wl)) ∧ yX5_lift.cls = yX5_lift.cls ∧ yX5_lift.cls ≠ "java/lang/invoke/MethodHandle" ∧ yX5_lift.cls ≠ "java/lang/invoke/VarHandle" ∧ (parseMethodDescriptor yX5_lift.desc).map (fun d => d.parameters.length) = some 1 := ⟨wl_V (wl_at 1036 (by decide +kernel) rfl) (wl_at 1037 (by decide +kernel) rfl) (wl_at 1038 (by decide +kernel) rfl) (wl_at 66 (by decide +kernel) rfl) (wl_at 1039 (by decide +kernel) rfl), rfl, by decide +kernel, by decide +kernel, by decide +kernel⟩
theorem lL_82 : GoodIn wl (wsV RL 82 yX4_lick.cls yX4_lick (Cond.code yX4_lick cX4_lick 2 (some .int) :: wl)) ∧ yX4_lick.cls = yX4_lick.cls ∧ yX4_lick.cls ≠ "java/lang/invoke/MethodHandle" ∧ yX4_lick.cls ≠ "java/lang/invoke/VarHandle" ∧ (parseMethodDescriptor yX4_lick.desc).map (fun d => d.parameters.length) = some 1 := ⟨wl_V (wl_at 490 (by decide +kernel) rfl) (wl_at 491 (by decide +kernel) rfl) (wl_at 492 (by decide +kernel) rfl) (wl_at 61 (by decide +kernel) rfl) (wl_at 493 (by decide +kernel) rfl), rfl, by decide +kernel, by decide +kernel, by decide +kernel⟩
theorem lL_85 : GoodIn wl (wsV RL 85 yX5_lick.cls yX5_lick (Cond.code yX5_lick cX5_lick 2 (some .int) :: wl)) ∧ yX5_lick.cls = yX5_lick.cls ∧ yX5_lick.cls ≠ "java/lang/invoke/MethodHandle" ∧ yX5_lick.cls ≠ "java/lang/invoke/VarHandle" ∧ (parseMethodDescriptor yX5_lick.desc).map (fun d => d.parameters.length) = some 1 := ⟨wl_V (wl_at 1040 (by decide +kernel) rfl) (wl_at 1041 (by decide +kernel) rfl) (wl_at 1042 (by decide +kernel) rfl) (wl_at 66 (by decide +kernel) rfl) (wl_at 1043 (by decide +kernel) rfl), rfl, by decide +kernel, by decide +kernel, by decide +kernel⟩
theorem lL_86 : GoodIn wl (wsV RL 86 yX4_undo.cls yX4_undo (Cond.code yX4_undo cX4_undo 3 (some .int) :: wl)) ∧ yX4_undo.cls = yX4_undo.cls ∧ yX4_undo.cls ≠ "java/lang/invoke/MethodHandle" ∧ yX4_undo.cls ≠ "java/lang/invoke/VarHandle" ∧ (parseMethodDescriptor yX4_undo.desc).map (fun d => d.parameters.length) = some 1 := ⟨wl_V (wl_at 495 (by decide +kernel) rfl) (wl_at 496 (by decide +kernel) rfl) (wl_at 497 (by decide +kernel) rfl) (wl_at 61 (by decide +kernel) rfl) (wl_at 498 (by decide +kernel) rfl), rfl, by decide +kernel, by decide +kernel, by decide +kernel⟩
theorem lL_89 : GoodIn wl (wsV RL 89 yX5_undo.cls yX5_undo (Cond.code yX5_undo cX5_undo 3 (some .int) :: wl)) ∧ yX5_undo.cls = yX5_undo.cls ∧ yX5_undo.cls ≠ "java/lang/invoke/MethodHandle" ∧ yX5_undo.cls ≠ "java/lang/invoke/VarHandle" ∧ (parseMethodDescriptor yX5_undo.desc).map (fun d => d.parameters.length) = some 1 := ⟨wl_V (wl_at 1048 (by decide +kernel) rfl) (wl_at 1049 (by decide +kernel) rfl) (wl_at 1050 (by decide +kernel) rfl) (wl_at 66 (by decide +kernel) rfl) (wl_at 1051 (by decide +kernel) rfl), rfl, by decide +kernel, by decide +kernel, by decide +kernel⟩
theorem lL_90 : GoodIn wl (wsV RL 90 yX4_keep.cls yX4_keep (Cond.code yX4_keep cX4_keep 2 (some .int) :: wl)) ∧ yX4_keep.cls = yX4_keep.cls ∧ yX4_keep.cls ≠ "java/lang/invoke/MethodHandle" ∧ yX4_keep.cls ≠ "java/lang/invoke/VarHandle" ∧ (parseMethodDescriptor yX4_keep.desc).map (fun d => d.parameters.length) = some 1 := ⟨wl_V (wl_at 507 (by decide +kernel) rfl) (wl_at 508 (by decide +kernel) rfl) (wl_at 509 (by decide +kernel) rfl) (wl_at 61 (by decide +kernel) rfl) (wl_at 510 (by decide +kernel) rfl), rfl, by decide +kernel, by decide +kernel, by decide +kernel⟩
theorem lL_93 : GoodIn wl (wsV RL 93 yX5_keep.cls yX5_keep (Cond.code yX5_keep cX5_keep 2 (some .int) :: wl)) ∧ yX5_keep.cls = yX5_keep.cls ∧ yX5_keep.cls ≠ "java/lang/invoke/MethodHandle" ∧ yX5_keep.cls ≠ "java/lang/invoke/VarHandle" ∧ (parseMethodDescriptor yX5_keep.desc).map (fun d => d.parameters.length) = some 1 := ⟨wl_V (wl_at 1052 (by decide +kernel) rfl) (wl_at 1053 (by decide +kernel) rfl) (wl_at 1054 (by decide +kernel) rfl) (wl_at 66 (by decide +kernel) rfl) (wl_at 1055 (by decide +kernel) rfl), rfl, by decide +kernel, by decide +kernel, by decide +kernel⟩
theorem lL_94 : GoodIn wl (wsV RL 94 yX4_on.cls yX4_on (Cond.code yX4_on cX4_on 2 (some .int) :: wl)) ∧ yX4_on.cls = yX4_on.cls ∧ yX4_on.cls ≠ "java/lang/invoke/MethodHandle" ∧ yX4_on.cls ≠ "java/lang/invoke/VarHandle" ∧ (parseMethodDescriptor yX4_on.desc).map (fun d => d.parameters.length) = some 1 := ⟨wl_V (wl_at 517 (by decide +kernel) rfl) (wl_at 518 (by decide +kernel) rfl) (wl_at 519 (by decide +kernel) rfl) (wl_at 61 (by decide +kernel) rfl) (wl_at 520 (by decide +kernel) rfl), rfl, by decide +kernel, by decide +kernel, by decide +kernel⟩
theorem lL_97 : GoodIn wl (wsV RL 97 yX5_on.cls yX5_on (Cond.code yX5_on cX5_on 2 (some .int) :: wl)) ∧ yX5_on.cls = yX5_on.cls ∧ yX5_on.cls ≠ "java/lang/invoke/MethodHandle" ∧ yX5_on.cls ≠ "java/lang/invoke/VarHandle" ∧ (parseMethodDescriptor yX5_on.desc).map (fun d => d.parameters.length) = some 1 := ⟨wl_V (wl_at 1056 (by decide +kernel) rfl) (wl_at 1057 (by decide +kernel) rfl) (wl_at 1058 (by decide +kernel) rfl) (wl_at 66 (by decide +kernel) rfl) (wl_at 1059 (by decide +kernel) rfl), rfl, by decide +kernel, by decide +kernel, by decide +kernel⟩
theorem lL_98 : GoodIn wl (wsV RL 98 yX4_covers.cls yX4_covers (Cond.code yX4_covers cX4_covers 4 (some .int) :: wl)) ∧ yX4_covers.cls = yX4_covers.cls ∧ yX4_covers.cls ≠ "java/lang/invoke/MethodHandle" ∧ yX4_covers.cls ≠ "java/lang/invoke/VarHandle" ∧ (parseMethodDescriptor yX4_covers.desc).map (fun d => d.parameters.length) = some 3 := ⟨wl_V (wl_at 521 (by decide +kernel) rfl) (wl_at 522 (by decide +kernel) rfl) (wl_at 523 (by decide +kernel) rfl) (wl_at 61 (by decide +kernel) rfl) (wl_at 524 (by decide +kernel) rfl), rfl, by decide +kernel, by decide +kernel, by decide +kernel⟩
theorem lL_101 : GoodIn wl (wsV RL 101 yX5_covers.cls yX5_covers (Cond.code yX5_covers cX5_covers 4 (some .int) :: wl)) ∧ yX5_covers.cls = yX5_covers.cls ∧ yX5_covers.cls ≠ "java/lang/invoke/MethodHandle" ∧ yX5_covers.cls ≠ "java/lang/invoke/VarHandle" ∧ (parseMethodDescriptor yX5_covers.desc).map (fun d => d.parameters.length) = some 3 := ⟨wl_V (wl_at 1060 (by decide +kernel) rfl) (wl_at 1061 (by decide +kernel) rfl) (wl_at 1062 (by decide +kernel) rfl) (wl_at 66 (by decide +kernel) rfl) (wl_at 1063 (by decide +kernel) rfl), rfl, by decide +kernel, by decide +kernel, by decide +kernel⟩
theorem lL_102 : GoodIn wl (wsV RL 102 yX4_covered.cls yX4_covered (Cond.code yX4_covered cX4_covered 1 (some .int) :: wl)) ∧ yX4_covered.cls = yX4_covered.cls ∧ yX4_covered.cls ≠ "java/lang/invoke/MethodHandle" ∧ yX4_covered.cls ≠ "java/lang/invoke/VarHandle" ∧ (parseMethodDescriptor yX4_covered.desc).map (fun d => d.parameters.length) = some 0 := ⟨wl_V (wl_at 529 (by decide +kernel) rfl) (wl_at 530 (by decide +kernel) rfl) (wl_at 531 (by decide +kernel) rfl) (wl_at 61 (by decide +kernel) rfl) (wl_at 532 (by decide +kernel) rfl), rfl, by decide +kernel, by decide +kernel, by decide +kernel⟩
theorem lL_105 : GoodIn wl (wsV RL 105 yX5_covered.cls yX5_covered (Cond.code yX5_covered cX5_covered 1 (some .int) :: wl)) ∧ yX5_covered.cls = yX5_covered.cls ∧ yX5_covered.cls ≠ "java/lang/invoke/MethodHandle" ∧ yX5_covered.cls ≠ "java/lang/invoke/VarHandle" ∧ (parseMethodDescriptor yX5_covered.desc).map (fun d => d.parameters.length) = some 0 := ⟨wl_V (wl_at 1064 (by decide +kernel) rfl) (wl_at 1065 (by decide +kernel) rfl) (wl_at 1066 (by decide +kernel) rfl) (wl_at 66 (by decide +kernel) rfl) (wl_at 1067 (by decide +kernel) rfl), rfl, by decide +kernel, by decide +kernel, by decide +kernel⟩
theorem lL_106 : GoodIn wl (wsV RL 106 yX4_weighs.cls yX4_weighs (Cond.code yX4_weighs cX4_weighs 2 (some .int) :: wl)) ∧ yX4_weighs.cls = yX4_weighs.cls ∧ yX4_weighs.cls ≠ "java/lang/invoke/MethodHandle" ∧ yX4_weighs.cls ≠ "java/lang/invoke/VarHandle" ∧ (parseMethodDescriptor yX4_weighs.desc).map (fun d => d.parameters.length) = some 1 := ⟨wl_V (wl_at 537 (by decide +kernel) rfl) (wl_at 538 (by decide +kernel) rfl) (wl_at 539 (by decide +kernel) rfl) (wl_at 61 (by decide +kernel) rfl) (wl_at 540 (by decide +kernel) rfl), rfl, by decide +kernel, by decide +kernel, by decide +kernel⟩
theorem lL_109 : GoodIn wl (wsV RL 109 yX5_weighs.cls yX5_weighs (Cond.code yX5_weighs cX5_weighs 5 (some .int) :: wl)) ∧ yX5_weighs.cls = yX5_weighs.cls ∧ yX5_weighs.cls ≠ "java/lang/invoke/MethodHandle" ∧ yX5_weighs.cls ≠ "java/lang/invoke/VarHandle" ∧ (parseMethodDescriptor yX5_weighs.desc).map (fun d => d.parameters.length) = some 1 := ⟨wl_V (wl_at 1068 (by decide +kernel) rfl) (wl_at 1069 (by decide +kernel) rfl) (wl_at 1070 (by decide +kernel) rfl) (wl_at 66 (by decide +kernel) rfl) (wl_at 1071 (by decide +kernel) rfl), rfl, by decide +kernel, by decide +kernel, by decide +kernel⟩
theorem lL_110 : GoodIn wl (wsV RL 110 yX4_reads.cls yX4_reads (Cond.code yX4_reads cX4_reads 2 (some .int) :: wl)) ∧ yX4_reads.cls = yX4_reads.cls ∧ yX4_reads.cls ≠ "java/lang/invoke/MethodHandle" ∧ yX4_reads.cls ≠ "java/lang/invoke/VarHandle" ∧ (parseMethodDescriptor yX4_reads.desc).map (fun d => d.parameters.length) = some 1 := ⟨wl_V (wl_at 545 (by decide +kernel) rfl) (wl_at 546 (by decide +kernel) rfl) (wl_at 547 (by decide +kernel) rfl) (wl_at 61 (by decide +kernel) rfl) (wl_at 548 (by decide +kernel) rfl), rfl, by decide +kernel, by decide +kernel, by decide +kernel⟩
theorem lL_113 : GoodIn wl (wsV RL 113 yX5_reads.cls yX5_reads (Cond.code yX5_reads cX5_reads 3 (some .int) :: wl)) ∧ yX5_reads.cls = yX5_reads.cls ∧ yX5_reads.cls ≠ "java/lang/invoke/MethodHandle" ∧ yX5_reads.cls ≠ "java/lang/invoke/VarHandle" ∧ (parseMethodDescriptor yX5_reads.desc).map (fun d => d.parameters.length) = some 1 := ⟨wl_V (wl_at 1072 (by decide +kernel) rfl) (wl_at 1073 (by decide +kernel) rfl) (wl_at 1074 (by decide +kernel) rfl) (wl_at 66 (by decide +kernel) rfl) (wl_at 1075 (by decide +kernel) rfl), rfl, by decide +kernel, by decide +kernel, by decide +kernel⟩
theorem lL_114 : GoodIn wl (wsV RL 114 yX4_first.cls yX4_first (Cond.code yX4_first cX4_first 3 (some .int) :: wl)) ∧ yX4_first.cls = yX4_first.cls ∧ yX4_first.cls ≠ "java/lang/invoke/MethodHandle" ∧ yX4_first.cls ≠ "java/lang/invoke/VarHandle" ∧ (parseMethodDescriptor yX4_first.desc).map (fun d => d.parameters.length) = some 1 := ⟨wl_V (wl_at 553 (by decide +kernel) rfl) (wl_at 554 (by decide +kernel) rfl) (wl_at 555 (by decide +kernel) rfl) (wl_at 61 (by decide +kernel) rfl) (wl_at 556 (by decide +kernel) rfl), rfl, by decide +kernel, by decide +kernel, by decide +kernel⟩
theorem lL_117 : GoodIn wl (wsV RL 117 yX5_first.cls yX5_first (Cond.code yX5_first cX5_first 3 (some .int) :: wl)) ∧ yX5_first.cls = yX5_first.cls ∧ yX5_first.cls ≠ "java/lang/invoke/MethodHandle" ∧ yX5_first.cls ≠ "java/lang/invoke/VarHandle" ∧ (parseMethodDescriptor yX5_first.desc).map (fun d => d.parameters.length) = some 1 := ⟨wl_V (wl_at 1076 (by decide +kernel) rfl) (wl_at 1077 (by decide +kernel) rfl) (wl_at 1078 (by decide +kernel) rfl) (wl_at 66 (by decide +kernel) rfl) (wl_at 1079 (by decide +kernel) rfl), rfl, by decide +kernel, by decide +kernel, by decide +kernel⟩
theorem lL_118 : GoodIn wl (wsV RL 118 yX4_found.cls yX4_found (Cond.code yX4_found cX4_found 3 (some .int) :: wl)) ∧ yX4_found.cls = yX4_found.cls ∧ yX4_found.cls ≠ "java/lang/invoke/MethodHandle" ∧ yX4_found.cls ≠ "java/lang/invoke/VarHandle" ∧ (parseMethodDescriptor yX4_found.desc).map (fun d => d.parameters.length) = some 2 := ⟨wl_V (wl_at 558 (by decide +kernel) rfl) (wl_at 559 (by decide +kernel) rfl) (wl_at 560 (by decide +kernel) rfl) (wl_at 61 (by decide +kernel) rfl) (wl_at 561 (by decide +kernel) rfl), rfl, by decide +kernel, by decide +kernel, by decide +kernel⟩
theorem lL_121 : GoodIn wl (wsV RL 121 yX5_found.cls yX5_found (Cond.code yX5_found cX5_found 6 (some .int) :: wl)) ∧ yX5_found.cls = yX5_found.cls ∧ yX5_found.cls ≠ "java/lang/invoke/MethodHandle" ∧ yX5_found.cls ≠ "java/lang/invoke/VarHandle" ∧ (parseMethodDescriptor yX5_found.desc).map (fun d => d.parameters.length) = some 2 := ⟨wl_V (wl_at 1080 (by decide +kernel) rfl) (wl_at 1081 (by decide +kernel) rfl) (wl_at 1082 (by decide +kernel) rfl) (wl_at 66 (by decide +kernel) rfl) (wl_at 1083 (by decide +kernel) rfl), rfl, by decide +kernel, by decide +kernel, by decide +kernel⟩
theorem lL_122 : GoodIn wl (wsV RL 122 yX4_best.cls yX4_best (Cond.code yX4_best cX4_best 8 (some .int) :: wl)) ∧ yX4_best.cls = yX4_best.cls ∧ yX4_best.cls ≠ "java/lang/invoke/MethodHandle" ∧ yX4_best.cls ≠ "java/lang/invoke/VarHandle" ∧ (parseMethodDescriptor yX4_best.desc).map (fun d => d.parameters.length) = some 1 := ⟨wl_V (wl_at 587 (by decide +kernel) rfl) (wl_at 588 (by decide +kernel) rfl) (wl_at 589 (by decide +kernel) rfl) (wl_at 61 (by decide +kernel) rfl) (wl_at 590 (by decide +kernel) rfl), rfl, by decide +kernel, by decide +kernel, by decide +kernel⟩
theorem lL_125 : GoodIn wl (wsV RL 125 yX5_best.cls yX5_best (Cond.code yX5_best cX5_best 6 (some .int) :: wl)) ∧ yX5_best.cls = yX5_best.cls ∧ yX5_best.cls ≠ "java/lang/invoke/MethodHandle" ∧ yX5_best.cls ≠ "java/lang/invoke/VarHandle" ∧ (parseMethodDescriptor yX5_best.desc).map (fun d => d.parameters.length) = some 1 := ⟨wl_V (wl_at 1096 (by decide +kernel) rfl) (wl_at 1097 (by decide +kernel) rfl) (wl_at 1098 (by decide +kernel) rfl) (wl_at 66 (by decide +kernel) rfl) (wl_at 1099 (by decide +kernel) rfl), rfl, by decide +kernel, by decide +kernel, by decide +kernel⟩
theorem lL_126 : GoodIn wl (wsV RL 126 yX4_gap.cls yX4_gap (Cond.code yX4_gap cX4_gap 2 (some .int) :: wl)) ∧ yX4_gap.cls = yX4_gap.cls ∧ yX4_gap.cls ≠ "java/lang/invoke/MethodHandle" ∧ yX4_gap.cls ≠ "java/lang/invoke/VarHandle" ∧ (parseMethodDescriptor yX4_gap.desc).map (fun d => d.parameters.length) = some 1 := ⟨wl_V (wl_at 593 (by decide +kernel) rfl) (wl_at 594 (by decide +kernel) rfl) (wl_at 595 (by decide +kernel) rfl) (wl_at 61 (by decide +kernel) rfl) (wl_at 596 (by decide +kernel) rfl), rfl, by decide +kernel, by decide +kernel, by decide +kernel⟩
theorem lL_129 : GoodIn wl (wsV RL 129 yX5_gap.cls yX5_gap (Cond.code yX5_gap cX5_gap 5 (some .int) :: wl)) ∧ yX5_gap.cls = yX5_gap.cls ∧ yX5_gap.cls ≠ "java/lang/invoke/MethodHandle" ∧ yX5_gap.cls ≠ "java/lang/invoke/VarHandle" ∧ (parseMethodDescriptor yX5_gap.desc).map (fun d => d.parameters.length) = some 1 := ⟨wl_V (wl_at 1100 (by decide +kernel) rfl) (wl_at 1101 (by decide +kernel) rfl) (wl_at 1102 (by decide +kernel) rfl) (wl_at 66 (by decide +kernel) rfl) (wl_at 1103 (by decide +kernel) rfl), rfl, by decide +kernel, by decide +kernel, by decide +kernel⟩
theorem lL_130 : GoodIn wl (wsV RL 130 yX4_sure.cls yX4_sure (Cond.code yX4_sure cX4_sure 2 (some .int) :: wl)) ∧ yX4_sure.cls = yX4_sure.cls ∧ yX4_sure.cls ≠ "java/lang/invoke/MethodHandle" ∧ yX4_sure.cls ≠ "java/lang/invoke/VarHandle" ∧ (parseMethodDescriptor yX4_sure.desc).map (fun d => d.parameters.length) = some 1 := ⟨wl_V (wl_at 613 (by decide +kernel) rfl) (wl_at 614 (by decide +kernel) rfl) (wl_at 615 (by decide +kernel) rfl) (wl_at 61 (by decide +kernel) rfl) (wl_at 616 (by decide +kernel) rfl), rfl, by decide +kernel, by decide +kernel, by decide +kernel⟩
theorem lL_133 : GoodIn wl (wsV RL 133 yX5_sure.cls yX5_sure (Cond.code yX5_sure cX5_sure 6 (some .int) :: wl)) ∧ yX5_sure.cls = yX5_sure.cls ∧ yX5_sure.cls ≠ "java/lang/invoke/MethodHandle" ∧ yX5_sure.cls ≠ "java/lang/invoke/VarHandle" ∧ (parseMethodDescriptor yX5_sure.desc).map (fun d => d.parameters.length) = some 1 := ⟨wl_V (wl_at 1108 (by decide +kernel) rfl) (wl_at 1109 (by decide +kernel) rfl) (wl_at 1110 (by decide +kernel) rfl) (wl_at 66 (by decide +kernel) rfl) (wl_at 1111 (by decide +kernel) rfl), rfl, by decide +kernel, by decide +kernel, by decide +kernel⟩
theorem lL_134 : GoodIn wl (wsV RL 134 yX4_places.cls yX4_places (Cond.code yX4_places cX4_places 4 (some .int) :: wl)) ∧ yX4_places.cls = yX4_places.cls ∧ yX4_places.cls ≠ "java/lang/invoke/MethodHandle" ∧ yX4_places.cls ≠ "java/lang/invoke/VarHandle" ∧ (parseMethodDescriptor yX4_places.desc).map (fun d => d.parameters.length) = some 2 := ⟨wl_V (wl_at 617 (by decide +kernel) rfl) (wl_at 618 (by decide +kernel) rfl) (wl_at 619 (by decide +kernel) rfl) (wl_at 61 (by decide +kernel) rfl) (wl_at 620 (by decide +kernel) rfl), rfl, by decide +kernel, by decide +kernel, by decide +kernel⟩
theorem lL_137 : GoodIn wl (wsV RL 137 yX5_places.cls yX5_places (Cond.code yX5_places cX5_places 6 (some .int) :: wl)) ∧ yX5_places.cls = yX5_places.cls ∧ yX5_places.cls ≠ "java/lang/invoke/MethodHandle" ∧ yX5_places.cls ≠ "java/lang/invoke/VarHandle" ∧ (parseMethodDescriptor yX5_places.desc).map (fun d => d.parameters.length) = some 2 := ⟨wl_V (wl_at 1112 (by decide +kernel) rfl) (wl_at 1113 (by decide +kernel) rfl) (wl_at 1114 (by decide +kernel) rfl) (wl_at 66 (by decide +kernel) rfl) (wl_at 1115 (by decide +kernel) rfl), rfl, by decide +kernel, by decide +kernel, by decide +kernel⟩
theorem lL_138 : GoodIn wl (wsV RL 138 yX4_kinds.cls yX4_kinds (Cond.code yX4_kinds cX4_kinds 4 (some .int) :: wl)) ∧ yX4_kinds.cls = yX4_kinds.cls ∧ yX4_kinds.cls ≠ "java/lang/invoke/MethodHandle" ∧ yX4_kinds.cls ≠ "java/lang/invoke/VarHandle" ∧ (parseMethodDescriptor yX4_kinds.desc).map (fun d => d.parameters.length) = some 2 := ⟨wl_V (wl_at 634 (by decide +kernel) rfl) (wl_at 635 (by decide +kernel) rfl) (wl_at 636 (by decide +kernel) rfl) (wl_at 61 (by decide +kernel) rfl) (wl_at 637 (by decide +kernel) rfl), rfl, by decide +kernel, by decide +kernel, by decide +kernel⟩
theorem lL_141 : GoodIn wl (wsV RL 141 yX5_kinds.cls yX5_kinds (Cond.code yX5_kinds cX5_kinds 6 (some .int) :: wl)) ∧ yX5_kinds.cls = yX5_kinds.cls ∧ yX5_kinds.cls ≠ "java/lang/invoke/MethodHandle" ∧ yX5_kinds.cls ≠ "java/lang/invoke/VarHandle" ∧ (parseMethodDescriptor yX5_kinds.desc).map (fun d => d.parameters.length) = some 2 := ⟨wl_V (wl_at 1124 (by decide +kernel) rfl) (wl_at 1125 (by decide +kernel) rfl) (wl_at 1126 (by decide +kernel) rfl) (wl_at 66 (by decide +kernel) rfl) (wl_at 1127 (by decide +kernel) rfl), rfl, by decide +kernel, by decide +kernel, by decide +kernel⟩
theorem lL_142 : GoodIn wl (wsV RL 142 yX4_next.cls yX4_next (Cond.code yX4_next cX4_next 5 (some .int) :: wl)) ∧ yX4_next.cls = yX4_next.cls ∧ yX4_next.cls ≠ "java/lang/invoke/MethodHandle" ∧ yX4_next.cls ≠ "java/lang/invoke/VarHandle" ∧ (parseMethodDescriptor yX4_next.desc).map (fun d => d.parameters.length) = some 2 := ⟨wl_V (wl_at 646 (by decide +kernel) rfl) (wl_at 647 (by decide +kernel) rfl) (wl_at 648 (by decide +kernel) rfl) (wl_at 61 (by decide +kernel) rfl) (wl_at 649 (by decide +kernel) rfl), rfl, by decide +kernel, by decide +kernel, by decide +kernel⟩
theorem lL_145 : GoodIn wl (wsV RL 145 yX5_next.cls yX5_next (Cond.code yX5_next cX5_next 10 (some .int) :: wl)) ∧ yX5_next.cls = yX5_next.cls ∧ yX5_next.cls ≠ "java/lang/invoke/MethodHandle" ∧ yX5_next.cls ≠ "java/lang/invoke/VarHandle" ∧ (parseMethodDescriptor yX5_next.desc).map (fun d => d.parameters.length) = some 2 := ⟨wl_V (wl_at 1128 (by decide +kernel) rfl) (wl_at 1129 (by decide +kernel) rfl) (wl_at 1130 (by decide +kernel) rfl) (wl_at 66 (by decide +kernel) rfl) (wl_at 1131 (by decide +kernel) rfl), rfl, by decide +kernel, by decide +kernel, by decide +kernel⟩
theorem lL_146 : GoodIn wl (wsV RL 146 yX4_sets.cls yX4_sets (Cond.code yX4_sets cX4_sets 2 (some .int) :: wl)) ∧ yX4_sets.cls = yX4_sets.cls ∧ yX4_sets.cls ≠ "java/lang/invoke/MethodHandle" ∧ yX4_sets.cls ≠ "java/lang/invoke/VarHandle" ∧ (parseMethodDescriptor yX4_sets.desc).map (fun d => d.parameters.length) = some 1 := ⟨wl_V (wl_at 657 (by decide +kernel) rfl) (wl_at 658 (by decide +kernel) rfl) (wl_at 659 (by decide +kernel) rfl) (wl_at 61 (by decide +kernel) rfl) (wl_at 660 (by decide +kernel) rfl), rfl, by decide +kernel, by decide +kernel, by decide +kernel⟩
theorem lL_149 : GoodIn wl (wsV RL 149 yX5_sets.cls yX5_sets (Cond.code yX5_sets cX5_sets 5 (some .int) :: wl)) ∧ yX5_sets.cls = yX5_sets.cls ∧ yX5_sets.cls ≠ "java/lang/invoke/MethodHandle" ∧ yX5_sets.cls ≠ "java/lang/invoke/VarHandle" ∧ (parseMethodDescriptor yX5_sets.desc).map (fun d => d.parameters.length) = some 1 := ⟨wl_V (wl_at 1132 (by decide +kernel) rfl) (wl_at 1133 (by decide +kernel) rfl) (wl_at 1134 (by decide +kernel) rfl) (wl_at 66 (by decide +kernel) rfl) (wl_at 1135 (by decide +kernel) rfl), rfl, by decide +kernel, by decide +kernel, by decide +kernel⟩
theorem lL_150 : GoodIn wl (wsV RL 150 yX4_surely.cls yX4_surely (Cond.code yX4_surely cX4_surely 2 (some .int) :: wl)) ∧ yX4_surely.cls = yX4_surely.cls ∧ yX4_surely.cls ≠ "java/lang/invoke/MethodHandle" ∧ yX4_surely.cls ≠ "java/lang/invoke/VarHandle" ∧ (parseMethodDescriptor yX4_surely.desc).map (fun d => d.parameters.length) = some 1 := ⟨wl_V (wl_at 673 (by decide +kernel) rfl) (wl_at 674 (by decide +kernel) rfl) (wl_at 675 (by decide +kernel) rfl) (wl_at 61 (by decide +kernel) rfl) (wl_at 676 (by decide +kernel) rfl), rfl, by decide +kernel, by decide +kernel, by decide +kernel⟩
theorem lL_153 : GoodIn wl (wsV RL 153 yX5_surely.cls yX5_surely (Cond.code yX5_surely cX5_surely 7 (some .int) :: wl)) ∧ yX5_surely.cls = yX5_surely.cls ∧ yX5_surely.cls ≠ "java/lang/invoke/MethodHandle" ∧ yX5_surely.cls ≠ "java/lang/invoke/VarHandle" ∧ (parseMethodDescriptor yX5_surely.desc).map (fun d => d.parameters.length) = some 1 := ⟨wl_V (wl_at 1140 (by decide +kernel) rfl) (wl_at 1141 (by decide +kernel) rfl) (wl_at 1142 (by decide +kernel) rfl) (wl_at 66 (by decide +kernel) rfl) (wl_at 1143 (by decide +kernel) rfl), rfl, by decide +kernel, by decide +kernel, by decide +kernel⟩
theorem lL_154 : GoodIn wl (wsV RL 154 yX4_duel.cls yX4_duel (Cond.code yX4_duel cX4_duel 3 (some .int) :: wl)) ∧ yX4_duel.cls = yX4_duel.cls ∧ yX4_duel.cls ≠ "java/lang/invoke/MethodHandle" ∧ yX4_duel.cls ≠ "java/lang/invoke/VarHandle" ∧ (parseMethodDescriptor yX4_duel.desc).map (fun d => d.parameters.length) = some 1 := ⟨wl_V (wl_at 677 (by decide +kernel) rfl) (wl_at 678 (by decide +kernel) rfl) (wl_at 679 (by decide +kernel) rfl) (wl_at 61 (by decide +kernel) rfl) (wl_at 680 (by decide +kernel) rfl), rfl, by decide +kernel, by decide +kernel, by decide +kernel⟩
theorem lL_157 : GoodIn wl (wsV RL 157 yX5_duel.cls yX5_duel (Cond.code yX5_duel cX5_duel 9 (some .int) :: wl)) ∧ yX5_duel.cls = yX5_duel.cls ∧ yX5_duel.cls ≠ "java/lang/invoke/MethodHandle" ∧ yX5_duel.cls ≠ "java/lang/invoke/VarHandle" ∧ (parseMethodDescriptor yX5_duel.desc).map (fun d => d.parameters.length) = some 1 := ⟨wl_V (wl_at 1144 (by decide +kernel) rfl) (wl_at 1145 (by decide +kernel) rfl) (wl_at 1146 (by decide +kernel) rfl) (wl_at 66 (by decide +kernel) rfl) (wl_at 1147 (by decide +kernel) rfl), rfl, by decide +kernel, by decide +kernel, by decide +kernel⟩
theorem lL_158 : GoodIn wl (wsV RL 158 yX4_odds.cls yX4_odds (Cond.code yX4_odds cX4_odds 3 (some .int) :: wl)) ∧ yX4_odds.cls = yX4_odds.cls ∧ yX4_odds.cls ≠ "java/lang/invoke/MethodHandle" ∧ yX4_odds.cls ≠ "java/lang/invoke/VarHandle" ∧ (parseMethodDescriptor yX4_odds.desc).map (fun d => d.parameters.length) = some 2 := ⟨wl_V (wl_at 700 (by decide +kernel) rfl) (wl_at 701 (by decide +kernel) rfl) (wl_at 702 (by decide +kernel) rfl) (wl_at 61 (by decide +kernel) rfl) (wl_at 703 (by decide +kernel) rfl), rfl, by decide +kernel, by decide +kernel, by decide +kernel⟩
theorem lL_161 : GoodIn wl (wsV RL 161 yX5_odds.cls yX5_odds (Cond.code yX5_odds cX5_odds 3 (some .int) :: wl)) ∧ yX5_odds.cls = yX5_odds.cls ∧ yX5_odds.cls ≠ "java/lang/invoke/MethodHandle" ∧ yX5_odds.cls ≠ "java/lang/invoke/VarHandle" ∧ (parseMethodDescriptor yX5_odds.desc).map (fun d => d.parameters.length) = some 2 := ⟨wl_V (wl_at 1152 (by decide +kernel) rfl) (wl_at 1153 (by decide +kernel) rfl) (wl_at 1154 (by decide +kernel) rfl) (wl_at 66 (by decide +kernel) rfl) (wl_at 1155 (by decide +kernel) rfl), rfl, by decide +kernel, by decide +kernel, by decide +kernel⟩
theorem lL_162 : GoodIn wl (wsV RL 162 yX4_mid.cls yX4_mid (Cond.code yX4_mid cX4_mid 2 (some .int) :: wl)) ∧ yX4_mid.cls = yX4_mid.cls ∧ yX4_mid.cls ≠ "java/lang/invoke/MethodHandle" ∧ yX4_mid.cls ≠ "java/lang/invoke/VarHandle" ∧ (parseMethodDescriptor yX4_mid.desc).map (fun d => d.parameters.length) = some 1 := ⟨wl_V (wl_at 712 (by decide +kernel) rfl) (wl_at 713 (by decide +kernel) rfl) (wl_at 714 (by decide +kernel) rfl) (wl_at 61 (by decide +kernel) rfl) (wl_at 715 (by decide +kernel) rfl), rfl, by decide +kernel, by decide +kernel, by decide +kernel⟩
theorem lL_165 : GoodIn wl (wsV RL 165 yX5_mid.cls yX5_mid (Cond.code yX5_mid cX5_mid 2 (some .int) :: wl)) ∧ yX5_mid.cls = yX5_mid.cls ∧ yX5_mid.cls ≠ "java/lang/invoke/MethodHandle" ∧ yX5_mid.cls ≠ "java/lang/invoke/VarHandle" ∧ (parseMethodDescriptor yX5_mid.desc).map (fun d => d.parameters.length) = some 1 := ⟨wl_V (wl_at 1168 (by decide +kernel) rfl) (wl_at 1169 (by decide +kernel) rfl) (wl_at 1170 (by decide +kernel) rfl) (wl_at 66 (by decide +kernel) rfl) (wl_at 1171 (by decide +kernel) rfl), rfl, by decide +kernel, by decide +kernel, by decide +kernel⟩
theorem lL_166 : GoodIn wl (wsV RL 166 yX4_lots.cls yX4_lots (Cond.code yX4_lots cX4_lots 6 (some .int) :: wl)) ∧ yX4_lots.cls = yX4_lots.cls ∧ yX4_lots.cls ≠ "java/lang/invoke/MethodHandle" ∧ yX4_lots.cls ≠ "java/lang/invoke/VarHandle" ∧ (parseMethodDescriptor yX4_lots.desc).map (fun d => d.parameters.length) = some 2 := ⟨wl_V (wl_at 716 (by decide +kernel) rfl) (wl_at 717 (by decide +kernel) rfl) (wl_at 718 (by decide +kernel) rfl) (wl_at 61 (by decide +kernel) rfl) (wl_at 719 (by decide +kernel) rfl), rfl, by decide +kernel, by decide +kernel, by decide +kernel⟩
theorem lL_169 : GoodIn wl (wsV RL 169 yX5_lots.cls yX5_lots (Cond.code yX5_lots cX5_lots 6 (some .int) :: wl)) ∧ yX5_lots.cls = yX5_lots.cls ∧ yX5_lots.cls ≠ "java/lang/invoke/MethodHandle" ∧ yX5_lots.cls ≠ "java/lang/invoke/VarHandle" ∧ (parseMethodDescriptor yX5_lots.desc).map (fun d => d.parameters.length) = some 2 := ⟨wl_V (wl_at 1172 (by decide +kernel) rfl) (wl_at 1173 (by decide +kernel) rfl) (wl_at 1174 (by decide +kernel) rfl) (wl_at 66 (by decide +kernel) rfl) (wl_at 1175 (by decide +kernel) rfl), rfl, by decide +kernel, by decide +kernel, by decide +kernel⟩
theorem lL_170 : GoodIn wl (wsV RL 170 yX4_asked.cls yX4_asked (Cond.code yX4_asked cX4_asked 1 (some .int) :: wl)) ∧ yX4_asked.cls = yX4_asked.cls ∧ yX4_asked.cls ≠ "java/lang/invoke/MethodHandle" ∧ yX4_asked.cls ≠ "java/lang/invoke/VarHandle" ∧ (parseMethodDescriptor yX4_asked.desc).map (fun d => d.parameters.length) = some 0 := ⟨wl_V (wl_at 728 (by decide +kernel) rfl) (wl_at 729 (by decide +kernel) rfl) (wl_at 730 (by decide +kernel) rfl) (wl_at 61 (by decide +kernel) rfl) (wl_at 731 (by decide +kernel) rfl), rfl, by decide +kernel, by decide +kernel, by decide +kernel⟩
theorem lL_173 : GoodIn wl (wsV RL 173 yX5_asked.cls yX5_asked (Cond.code yX5_asked cX5_asked 1 (some .int) :: wl)) ∧ yX5_asked.cls = yX5_asked.cls ∧ yX5_asked.cls ≠ "java/lang/invoke/MethodHandle" ∧ yX5_asked.cls ≠ "java/lang/invoke/VarHandle" ∧ (parseMethodDescriptor yX5_asked.desc).map (fun d => d.parameters.length) = some 0 := ⟨wl_V (wl_at 1186 (by decide +kernel) rfl) (wl_at 1187 (by decide +kernel) rfl) (wl_at 1188 (by decide +kernel) rfl) (wl_at 66 (by decide +kernel) rfl) (wl_at 1189 (by decide +kernel) rfl), rfl, by decide +kernel, by decide +kernel, by decide +kernel⟩
theorem lL_174 : GoodIn wl (wsV RL 174 yX4_upper.cls yX4_upper (Cond.code yX4_upper cX4_upper 1 (some .long) :: wl)) ∧ yX4_upper.cls = yX4_upper.cls ∧ yX4_upper.cls ≠ "java/lang/invoke/MethodHandle" ∧ yX4_upper.cls ≠ "java/lang/invoke/VarHandle" ∧ (parseMethodDescriptor yX4_upper.desc).map (fun d => d.parameters.length) = some 0 := ⟨wl_V (wl_at 732 (by decide +kernel) rfl) (wl_at 733 (by decide +kernel) rfl) (wl_at 734 (by decide +kernel) rfl) (wl_at 61 (by decide +kernel) rfl) (wl_at 735 (by decide +kernel) rfl), rfl, by decide +kernel, by decide +kernel, by decide +kernel⟩
theorem lL_178 : GoodIn wl (wsV RL 178 yX5_upper.cls yX5_upper (Cond.code yX5_upper cX5_upper 1 (some .long) :: wl)) ∧ yX5_upper.cls = yX5_upper.cls ∧ yX5_upper.cls ≠ "java/lang/invoke/MethodHandle" ∧ yX5_upper.cls ≠ "java/lang/invoke/VarHandle" ∧ (parseMethodDescriptor yX5_upper.desc).map (fun d => d.parameters.length) = some 0 := ⟨wl_V (wl_at 1190 (by decide +kernel) rfl) (wl_at 1191 (by decide +kernel) rfl) (wl_at 1192 (by decide +kernel) rfl) (wl_at 66 (by decide +kernel) rfl) (wl_at 1193 (by decide +kernel) rfl), rfl, by decide +kernel, by decide +kernel, by decide +kernel⟩
theorem lL_179 : GoodIn wl (wsV RL 179 yX4_lower.cls yX4_lower (Cond.code yX4_lower cX4_lower 1 (some .long) :: wl)) ∧ yX4_lower.cls = yX4_lower.cls ∧ yX4_lower.cls ≠ "java/lang/invoke/MethodHandle" ∧ yX4_lower.cls ≠ "java/lang/invoke/VarHandle" ∧ (parseMethodDescriptor yX4_lower.desc).map (fun d => d.parameters.length) = some 0 := ⟨wl_V (wl_at 736 (by decide +kernel) rfl) (wl_at 737 (by decide +kernel) rfl) (wl_at 738 (by decide +kernel) rfl) (wl_at 61 (by decide +kernel) rfl) (wl_at 739 (by decide +kernel) rfl), rfl, by decide +kernel, by decide +kernel, by decide +kernel⟩
theorem lL_182 : GoodIn wl (wsV RL 182 yX5_lower.cls yX5_lower (Cond.code yX5_lower cX5_lower 1 (some .long) :: wl)) ∧ yX5_lower.cls = yX5_lower.cls ∧ yX5_lower.cls ≠ "java/lang/invoke/MethodHandle" ∧ yX5_lower.cls ≠ "java/lang/invoke/VarHandle" ∧ (parseMethodDescriptor yX5_lower.desc).map (fun d => d.parameters.length) = some 0 := ⟨wl_V (wl_at 1194 (by decide +kernel) rfl) (wl_at 1195 (by decide +kernel) rfl) (wl_at 1196 (by decide +kernel) rfl) (wl_at 66 (by decide +kernel) rfl) (wl_at 1197 (by decide +kernel) rfl), rfl, by decide +kernel, by decide +kernel, by decide +kernel⟩
theorem lL_183 : GoodIn wl (wsV RL 183 yX4_count.cls yX4_count (Cond.code yX4_count cX4_count 2 (some .int) :: wl)) ∧ yX4_count.cls = yX4_count.cls ∧ yX4_count.cls ≠ "java/lang/invoke/MethodHandle" ∧ yX4_count.cls ≠ "java/lang/invoke/VarHandle" ∧ (parseMethodDescriptor yX4_count.desc).map (fun d => d.parameters.length) = some 1 := ⟨wl_V (wl_at 740 (by decide +kernel) rfl) (wl_at 741 (by decide +kernel) rfl) (wl_at 742 (by decide +kernel) rfl) (wl_at 61 (by decide +kernel) rfl) (wl_at 743 (by decide +kernel) rfl), rfl, by decide +kernel, by decide +kernel, by decide +kernel⟩
theorem lL_186 : GoodIn wl (wsV RL 186 yX5_count.cls yX5_count (Cond.code yX5_count cX5_count 2 (some .int) :: wl)) ∧ yX5_count.cls = yX5_count.cls ∧ yX5_count.cls ≠ "java/lang/invoke/MethodHandle" ∧ yX5_count.cls ≠ "java/lang/invoke/VarHandle" ∧ (parseMethodDescriptor yX5_count.desc).map (fun d => d.parameters.length) = some 1 := ⟨wl_V (wl_at 1198 (by decide +kernel) rfl) (wl_at 1199 (by decide +kernel) rfl) (wl_at 1200 (by decide +kernel) rfl) (wl_at 66 (by decide +kernel) rfl) (wl_at 1201 (by decide +kernel) rfl), rfl, by decide +kernel, by decide +kernel, by decide +kernel⟩
theorem lL_187 : GoodIn wl (wsV RL 187 yX4_finding.cls yX4_finding (Cond.code yX4_finding cX4_finding 1 (some .int) :: wl)) ∧ yX4_finding.cls = yX4_finding.cls ∧ yX4_finding.cls ≠ "java/lang/invoke/MethodHandle" ∧ yX4_finding.cls ≠ "java/lang/invoke/VarHandle" ∧ (parseMethodDescriptor yX4_finding.desc).map (fun d => d.parameters.length) = some 0 := ⟨wl_V (wl_at 753 (by decide +kernel) rfl) (wl_at 754 (by decide +kernel) rfl) (wl_at 755 (by decide +kernel) rfl) (wl_at 61 (by decide +kernel) rfl) (wl_at 756 (by decide +kernel) rfl), rfl, by decide +kernel, by decide +kernel, by decide +kernel⟩
theorem lL_190 : GoodIn wl (wsV RL 190 yX5_finding.cls yX5_finding (Cond.code yX5_finding cX5_finding 1 (some .int) :: wl)) ∧ yX5_finding.cls = yX5_finding.cls ∧ yX5_finding.cls ≠ "java/lang/invoke/MethodHandle" ∧ yX5_finding.cls ≠ "java/lang/invoke/VarHandle" ∧ (parseMethodDescriptor yX5_finding.desc).map (fun d => d.parameters.length) = some 0 := ⟨wl_V (wl_at 1209 (by decide +kernel) rfl) (wl_at 1210 (by decide +kernel) rfl) (wl_at 1211 (by decide +kernel) rfl) (wl_at 66 (by decide +kernel) rfl) (wl_at 1212 (by decide +kernel) rfl), rfl, by decide +kernel, by decide +kernel, by decide +kernel⟩
theorem lL_191 : GoodIn wl (wsV RL 191 yX4_findings.cls yX4_findings (Cond.code yX4_findings cX4_findings 2 (some .int) :: wl)) ∧ yX4_findings.cls = yX4_findings.cls ∧ yX4_findings.cls ≠ "java/lang/invoke/MethodHandle" ∧ yX4_findings.cls ≠ "java/lang/invoke/VarHandle" ∧ (parseMethodDescriptor yX4_findings.desc).map (fun d => d.parameters.length) = some 1 := ⟨wl_V (wl_at 757 (by decide +kernel) rfl) (wl_at 758 (by decide +kernel) rfl) (wl_at 759 (by decide +kernel) rfl) (wl_at 61 (by decide +kernel) rfl) (wl_at 760 (by decide +kernel) rfl), rfl, by decide +kernel, by decide +kernel, by decide +kernel⟩
theorem lL_194 : GoodIn wl (wsV RL 194 yX5_findings.cls yX5_findings (Cond.code yX5_findings cX5_findings 2 (some .int) :: wl)) ∧ yX5_findings.cls = yX5_findings.cls ∧ yX5_findings.cls ≠ "java/lang/invoke/MethodHandle" ∧ yX5_findings.cls ≠ "java/lang/invoke/VarHandle" ∧ (parseMethodDescriptor yX5_findings.desc).map (fun d => d.parameters.length) = some 1 := ⟨wl_V (wl_at 1213 (by decide +kernel) rfl) (wl_at 1214 (by decide +kernel) rfl) (wl_at 1215 (by decide +kernel) rfl) (wl_at 66 (by decide +kernel) rfl) (wl_at 1216 (by decide +kernel) rfl), rfl, by decide +kernel, by decide +kernel, by decide +kernel⟩
theorem lL_195 : GoodIn wl (wsV RL 195 yX4_digest.cls yX4_digest (Cond.code yX4_digest cX4_digest 5 (some .long) :: wl)) ∧ yX4_digest.cls = yX4_digest.cls ∧ yX4_digest.cls ≠ "java/lang/invoke/MethodHandle" ∧ yX4_digest.cls ≠ "java/lang/invoke/VarHandle" ∧ (parseMethodDescriptor yX4_digest.desc).map (fun d => d.parameters.length) = some 0 := ⟨wl_V (wl_at 761 (by decide +kernel) rfl) (wl_at 762 (by decide +kernel) rfl) (wl_at 763 (by decide +kernel) rfl) (wl_at 61 (by decide +kernel) rfl) (wl_at 764 (by decide +kernel) rfl), rfl, by decide +kernel, by decide +kernel, by decide +kernel⟩
theorem lL_198 : GoodIn wl (wsV RL 198 yX5_digest.cls yX5_digest (Cond.code yX5_digest cX5_digest 5 (some .long) :: wl)) ∧ yX5_digest.cls = yX5_digest.cls ∧ yX5_digest.cls ≠ "java/lang/invoke/MethodHandle" ∧ yX5_digest.cls ≠ "java/lang/invoke/VarHandle" ∧ (parseMethodDescriptor yX5_digest.desc).map (fun d => d.parameters.length) = some 0 := ⟨wl_V (wl_at 1217 (by decide +kernel) rfl) (wl_at 1218 (by decide +kernel) rfl) (wl_at 1219 (by decide +kernel) rfl) (wl_at 66 (by decide +kernel) rfl) (wl_at 1220 (by decide +kernel) rfl), rfl, by decide +kernel, by decide +kernel, by decide +kernel⟩
set_option maxRecDepth 100000 in
set_option maxHeartbeats 4000000 in
theorem lc_0 {p : Program} {l : Launch} {e : Env} {s : State} {m : MethodId} {below : List Frame} {meth : Method} {c : Code} {Q : State → Prop} {D : va_G} {cI : ClassId} {tL b L : Nat} {xs : Nat → Int32} {Rel : CS → MS → Prop} (hst : Step_row Rel) (hc : Cx p s m #[Value.ref b] c D cI tL (fun q => s.heap.size ≤ q) code 4 RL) (hX : va_X b L xs s s.heap) (hbl : b < s.heap.size) (hbA : ¬ s.heap.size ≤ b) (ad bd : Nat → Nat) (x3 : Int32) (h1 : vp_in (x3 + 1) L) (h2 : vp_in (x3 + 2) L) (h3 : vp_in (x3 + 3) L) (h4 : vp_in (x3 + 4) L) (h5 : vp_in (x3 + 5) L) (c0 : CS) (d0 : MS) (hr : Rel c0 d0)
    (kk : ∀ (c1 : CS) (d1 : MS), Rel c1 d1 → ∀ (ls : Array Slot) (H : Heap) (locs : List Loc), lv_has ls 4 [(0, .ref b), (1, .ref (ad 0)), (2, .ref (bd 0)), (3, .int x3)] → St D (fun q => s.heap.size ≤ q) s (w4 cI ad c1 ++ w5 cI bd d1) H locs → W p l e room_1 s m #[Value.ref b] below meth c H locs 47 9681 Q (F0 m 1416 ls []))
    (ls : Array Slot) (H : Heap) (locs : List Loc) (hl : lv_has ls 4 [(0, .ref b), (1, .ref (ad 0)), (2, .ref (bd 0)), (3, .int x3)]) (hG : St D (fun q => s.heap.size ≤ q) s (w4 cI ad c0 ++ w5 cI bd d0) H locs) : W p l e room_1 s m #[Value.ref b] below meth c H locs 47 9681 Q (F0 m 228 ls []) := by
  obtain ⟨r, c', d', e4, e5, hr'⟩ := hst c0 d0 hr (xs (x3 + 1).toNatClampNeg) (xs (x3 + 2).toNatClampNeg)
  obtain ⟨hx, hb, hml, hown, hts, hK, hA, hz⟩ := id hc
  refine lv_aload_n hx hb dL_law_228 rfl (lv_at hl 1 rfl) ?_
  refine lv_aload_n hx hb dL_law_229 rfl (lv_at hl 0 rfl) ?_
  refine lv_iload_n hx hb dL_law_230 rfl (lv_at hl 3 rfl) ?_
  refine lv_iconst (v := 1) hx hb dL_law_231 (by decide) ?_
  refine lv_iadd hx hb dL_law_232 ?_
  refine va_sld hx hb hX hbl hbA hG.2.2 h1 dL_law_233 ?_
  refine lv_aload_n hx hb dL_law_234 rfl (lv_at hl 0 rfl) ?_
  refine lv_iload_n hx hb dL_law_235 rfl (lv_at hl 3 rfl) ?_
  refine lv_iconst (v := 2) hx hb dL_law_236 (by decide) ?_
  refine lv_iadd hx hb dL_law_237 ?_
  refine va_sld hx hb hX hbl hbA hG.2.2 h2 dL_law_238 ?_
  refine y_viA (rest := []) hc hG (k4_row ad c0 (xs (x3 + 1).toNatClampNeg) (xs (x3 + 2).toNatClampNeg) r c' e4) rfl rfl lL_13 ⟨rfl, rfl, by decide, by decide⟩ ⟨by decide, by decide⟩ rfl hl.1 (Nat.le_of_ble_eq_true rfl) rfl dL_law_239 (fun H locs hG => ?_)
  refine lv_aload_n hx hb dL_law_242 rfl (lv_at hl 2 rfl) ?_
  refine lv_aload_n hx hb dL_law_243 rfl (lv_at hl 0 rfl) ?_
  refine lv_iload_n hx hb dL_law_244 rfl (lv_at hl 3 rfl) ?_
  refine lv_iconst (v := 1) hx hb dL_law_245 (by decide) ?_
  refine lv_iadd hx hb dL_law_246 ?_
  refine va_sld hx hb hX hbl hbA hG.2.2 h1 dL_law_247 ?_
  refine lv_aload_n hx hb dL_law_248 rfl (lv_at hl 0 rfl) ?_
  refine lv_iload_n hx hb dL_law_249 rfl (lv_at hl 3 rfl) ?_
  refine lv_iconst (v := 2) hx hb dL_law_250 (by decide) ?_
  refine lv_iadd hx hb dL_law_251 ?_
  refine va_sld hx hb hX hbl hbA hG.2.2 h2 dL_law_252 ?_
  refine y_viB (rest := [.int r]) hc hG (k5_row bd d0 (xs (x3 + 1).toNatClampNeg) (xs (x3 + 2).toNatClampNeg) r d' e5) rfl rfl lL_17 ⟨rfl, rfl, by decide, by decide⟩ ⟨by decide, by decide⟩ rfl hl.1 (Nat.le_of_ble_eq_true rfl) rfl dL_law_253 (fun H locs hG => ?_)
  refine lv_icmp_eq (tgt := 1416) hx hb dL_law_256 (by decide) (fun _ => ?_) (fun q => absurd rfl q)
  exact kk c' d' hr' ls H locs hl hG
set_option maxRecDepth 100000 in
set_option maxHeartbeats 4000000 in
theorem lc_1 {p : Program} {l : Launch} {e : Env} {s : State} {m : MethodId} {below : List Frame} {meth : Method} {c : Code} {Q : State → Prop} {D : va_G} {cI : ClassId} {tL b L : Nat} {xs : Nat → Int32} {Rel : CS → MS → Prop} (hst : Step_lay Rel) (hc : Cx p s m #[Value.ref b] c D cI tL (fun q => s.heap.size ≤ q) code 4 RL) (hX : va_X b L xs s s.heap) (hbl : b < s.heap.size) (hbA : ¬ s.heap.size ≤ b) (ad bd : Nat → Nat) (x3 : Int32) (h1 : vp_in (x3 + 1) L) (h2 : vp_in (x3 + 2) L) (h3 : vp_in (x3 + 3) L) (h4 : vp_in (x3 + 4) L) (h5 : vp_in (x3 + 5) L) (c0 : CS) (d0 : MS) (hr : Rel c0 d0)
    (kk : ∀ (c1 : CS) (d1 : MS), Rel c1 d1 → ∀ (ls : Array Slot) (H : Heap) (locs : List Loc), lv_has ls 4 [(0, .ref b), (1, .ref (ad 0)), (2, .ref (bd 0)), (3, .int x3)] → St D (fun q => s.heap.size ≤ q) s (w4 cI ad c1 ++ w5 cI bd d1) H locs → W p l e room_1 s m #[Value.ref b] below meth c H locs 47 9681 Q (F0 m 1416 ls []))
    (ls : Array Slot) (H : Heap) (locs : List Loc) (hl : lv_has ls 4 [(0, .ref b), (1, .ref (ad 0)), (2, .ref (bd 0)), (3, .int x3)]) (hG : St D (fun q => s.heap.size ≤ q) s (w4 cI ad c0 ++ w5 cI bd d0) H locs) : W p l e room_1 s m #[Value.ref b] below meth c H locs 47 9681 Q (F0 m 261 ls []) := by
  obtain ⟨r, c', d', e4, e5, hr'⟩ := hst c0 d0 hr (xs (x3 + 1).toNatClampNeg) (xs (x3 + 2).toNatClampNeg) (xs (x3 + 3).toNatClampNeg)
  obtain ⟨hx, hb, hml, hown, hts, hK, hA, hz⟩ := id hc
  refine lv_aload_n hx hb dL_law_261 rfl (lv_at hl 1 rfl) ?_
  refine lv_aload_n hx hb dL_law_262 rfl (lv_at hl 0 rfl) ?_
  refine lv_iload_n hx hb dL_law_263 rfl (lv_at hl 3 rfl) ?_
  refine lv_iconst (v := 1) hx hb dL_law_264 (by decide) ?_
  refine lv_iadd hx hb dL_law_265 ?_
  refine va_sld hx hb hX hbl hbA hG.2.2 h1 dL_law_266 ?_
  refine lv_aload_n hx hb dL_law_267 rfl (lv_at hl 0 rfl) ?_
  refine lv_iload_n hx hb dL_law_268 rfl (lv_at hl 3 rfl) ?_
  refine lv_iconst (v := 2) hx hb dL_law_269 (by decide) ?_
  refine lv_iadd hx hb dL_law_270 ?_
  refine va_sld hx hb hX hbl hbA hG.2.2 h2 dL_law_271 ?_
  refine lv_aload_n hx hb dL_law_272 rfl (lv_at hl 0 rfl) ?_
  refine lv_iload_n hx hb dL_law_273 rfl (lv_at hl 3 rfl) ?_
  refine lv_iconst (v := 3) hx hb dL_law_274 (by decide) ?_
  refine lv_iadd hx hb dL_law_275 ?_
  refine va_sld hx hb hX hbl hbA hG.2.2 h3 dL_law_276 ?_
  refine y_viA (rest := []) hc hG (k4_lay ad c0 (xs (x3 + 1).toNatClampNeg) (xs (x3 + 2).toNatClampNeg) (xs (x3 + 3).toNatClampNeg) r c' e4) rfl rfl lL_18 ⟨rfl, rfl, by decide, by decide⟩ ⟨by decide, by decide⟩ rfl hl.1 (Nat.le_of_ble_eq_true rfl) rfl dL_law_277 (fun H locs hG => ?_)
  refine lv_aload_n hx hb dL_law_280 rfl (lv_at hl 2 rfl) ?_
  refine lv_aload_n hx hb dL_law_281 rfl (lv_at hl 0 rfl) ?_
  refine lv_iload_n hx hb dL_law_282 rfl (lv_at hl 3 rfl) ?_
  refine lv_iconst (v := 1) hx hb dL_law_283 (by decide) ?_
  refine lv_iadd hx hb dL_law_284 ?_
  refine va_sld hx hb hX hbl hbA hG.2.2 h1 dL_law_285 ?_
  refine lv_aload_n hx hb dL_law_286 rfl (lv_at hl 0 rfl) ?_
  refine lv_iload_n hx hb dL_law_287 rfl (lv_at hl 3 rfl) ?_
  refine lv_iconst (v := 2) hx hb dL_law_288 (by decide) ?_
  refine lv_iadd hx hb dL_law_289 ?_
  refine va_sld hx hb hX hbl hbA hG.2.2 h2 dL_law_290 ?_
  refine lv_aload_n hx hb dL_law_291 rfl (lv_at hl 0 rfl) ?_
  refine lv_iload_n hx hb dL_law_292 rfl (lv_at hl 3 rfl) ?_
  refine lv_iconst (v := 3) hx hb dL_law_293 (by decide) ?_
  refine lv_iadd hx hb dL_law_294 ?_
  refine va_sld hx hb hX hbl hbA hG.2.2 h3 dL_law_295 ?_
  refine y_viB (rest := [.int r]) hc hG (k5_lay bd d0 (xs (x3 + 1).toNatClampNeg) (xs (x3 + 2).toNatClampNeg) (xs (x3 + 3).toNatClampNeg) r d' e5) rfl rfl lL_22 ⟨rfl, rfl, by decide, by decide⟩ ⟨by decide, by decide⟩ rfl hl.1 (Nat.le_of_ble_eq_true rfl) rfl dL_law_296 (fun H locs hG => ?_)
  refine lv_icmp_eq (tgt := 1416) hx hb dL_law_299 (by decide) (fun _ => ?_) (fun q => absurd rfl q)
  exact kk c' d' hr' ls H locs hl hG
set_option maxRecDepth 100000 in
set_option maxHeartbeats 4000000 in
theorem lc_2 {p : Program} {l : Launch} {e : Env} {s : State} {m : MethodId} {below : List Frame} {meth : Method} {c : Code} {Q : State → Prop} {D : va_G} {cI : ClassId} {tL b L : Nat} {xs : Nat → Int32} {Rel : CS → MS → Prop} (hst : Step_at Rel) (hc : Cx p s m #[Value.ref b] c D cI tL (fun q => s.heap.size ≤ q) code 4 RL) (hX : va_X b L xs s s.heap) (hbl : b < s.heap.size) (hbA : ¬ s.heap.size ≤ b) (ad bd : Nat → Nat) (x3 : Int32) (h1 : vp_in (x3 + 1) L) (h2 : vp_in (x3 + 2) L) (h3 : vp_in (x3 + 3) L) (h4 : vp_in (x3 + 4) L) (h5 : vp_in (x3 + 5) L) (c0 : CS) (d0 : MS) (hr : Rel c0 d0)
    (kk : ∀ (c1 : CS) (d1 : MS), Rel c1 d1 → ∀ (ls : Array Slot) (H : Heap) (locs : List Loc), lv_has ls 4 [(0, .ref b), (1, .ref (ad 0)), (2, .ref (bd 0)), (3, .int x3)] → St D (fun q => s.heap.size ≤ q) s (w4 cI ad c1 ++ w5 cI bd d1) H locs → W p l e room_1 s m #[Value.ref b] below meth c H locs 47 9681 Q (F0 m 1416 ls []))
    (ls : Array Slot) (H : Heap) (locs : List Loc) (hl : lv_has ls 4 [(0, .ref b), (1, .ref (ad 0)), (2, .ref (bd 0)), (3, .int x3)]) (hG : St D (fun q => s.heap.size ≤ q) s (w4 cI ad c0 ++ w5 cI bd d0) H locs) : W p l e room_1 s m #[Value.ref b] below meth c H locs 47 9681 Q (F0 m 304 ls []) := by
  obtain ⟨r, c', d', e4, e5, hr'⟩ := hst c0 d0 hr (xs (x3 + 1).toNatClampNeg) (xs (x3 + 2).toNatClampNeg)
  obtain ⟨hx, hb, hml, hown, hts, hK, hA, hz⟩ := id hc
  refine lv_aload_n hx hb dL_law_304 rfl (lv_at hl 1 rfl) ?_
  refine lv_aload_n hx hb dL_law_305 rfl (lv_at hl 0 rfl) ?_
  refine lv_iload_n hx hb dL_law_306 rfl (lv_at hl 3 rfl) ?_
  refine lv_iconst (v := 1) hx hb dL_law_307 (by decide) ?_
  refine lv_iadd hx hb dL_law_308 ?_
  refine va_sld hx hb hX hbl hbA hG.2.2 h1 dL_law_309 ?_
  refine lv_aload_n hx hb dL_law_310 rfl (lv_at hl 0 rfl) ?_
  refine lv_iload_n hx hb dL_law_311 rfl (lv_at hl 3 rfl) ?_
  refine lv_iconst (v := 2) hx hb dL_law_312 (by decide) ?_
  refine lv_iadd hx hb dL_law_313 ?_
  refine va_sld hx hb hX hbl hbA hG.2.2 h2 dL_law_314 ?_
  refine y_viA (rest := []) hc hG (k4_at ad c0 (xs (x3 + 1).toNatClampNeg) (xs (x3 + 2).toNatClampNeg) r c' e4) rfl rfl lL_23 ⟨rfl, rfl, by decide, by decide⟩ ⟨by decide, by decide⟩ rfl hl.1 (Nat.le_of_ble_eq_true rfl) rfl dL_law_315 (fun H locs hG => ?_)
  refine lv_aload_n hx hb dL_law_318 rfl (lv_at hl 2 rfl) ?_
  refine lv_aload_n hx hb dL_law_319 rfl (lv_at hl 0 rfl) ?_
  refine lv_iload_n hx hb dL_law_320 rfl (lv_at hl 3 rfl) ?_
  refine lv_iconst (v := 1) hx hb dL_law_321 (by decide) ?_
  refine lv_iadd hx hb dL_law_322 ?_
  refine va_sld hx hb hX hbl hbA hG.2.2 h1 dL_law_323 ?_
  refine lv_aload_n hx hb dL_law_324 rfl (lv_at hl 0 rfl) ?_
  refine lv_iload_n hx hb dL_law_325 rfl (lv_at hl 3 rfl) ?_
  refine lv_iconst (v := 2) hx hb dL_law_326 (by decide) ?_
  refine lv_iadd hx hb dL_law_327 ?_
  refine va_sld hx hb hX hbl hbA hG.2.2 h2 dL_law_328 ?_
  refine y_viB (rest := [.int r]) hc hG (k5_at bd d0 (xs (x3 + 1).toNatClampNeg) (xs (x3 + 2).toNatClampNeg) r d' e5) rfl rfl lL_26 ⟨rfl, rfl, by decide, by decide⟩ ⟨by decide, by decide⟩ rfl hl.1 (Nat.le_of_ble_eq_true rfl) rfl dL_law_329 (fun H locs hG => ?_)
  refine lv_icmp_eq (tgt := 1416) hx hb dL_law_332 (by decide) (fun _ => ?_) (fun q => absurd rfl q)
  exact kk c' d' hr' ls H locs hl hG
set_option maxRecDepth 100000 in
set_option maxHeartbeats 4000000 in
theorem lc_3 {p : Program} {l : Launch} {e : Env} {s : State} {m : MethodId} {below : List Frame} {meth : Method} {c : Code} {Q : State → Prop} {D : va_G} {cI : ClassId} {tL b L : Nat} {xs : Nat → Int32} {Rel : CS → MS → Prop} (hst : Step_tear Rel) (hc : Cx p s m #[Value.ref b] c D cI tL (fun q => s.heap.size ≤ q) code 4 RL) (hX : va_X b L xs s s.heap) (hbl : b < s.heap.size) (hbA : ¬ s.heap.size ≤ b) (ad bd : Nat → Nat) (x3 : Int32) (h1 : vp_in (x3 + 1) L) (h2 : vp_in (x3 + 2) L) (h3 : vp_in (x3 + 3) L) (h4 : vp_in (x3 + 4) L) (h5 : vp_in (x3 + 5) L) (c0 : CS) (d0 : MS) (hr : Rel c0 d0)
    (kk : ∀ (c1 : CS) (d1 : MS), Rel c1 d1 → ∀ (ls : Array Slot) (H : Heap) (locs : List Loc), lv_has ls 4 [(0, .ref b), (1, .ref (ad 0)), (2, .ref (bd 0)), (3, .int x3)] → St D (fun q => s.heap.size ≤ q) s (w4 cI ad c1 ++ w5 cI bd d1) H locs → W p l e room_1 s m #[Value.ref b] below meth c H locs 47 9681 Q (F0 m 1416 ls []))
    (ls : Array Slot) (H : Heap) (locs : List Loc) (hl : lv_has ls 4 [(0, .ref b), (1, .ref (ad 0)), (2, .ref (bd 0)), (3, .int x3)]) (hG : St D (fun q => s.heap.size ≤ q) s (w4 cI ad c0 ++ w5 cI bd d0) H locs) : W p l e room_1 s m #[Value.ref b] below meth c H locs 47 9681 Q (F0 m 337 ls []) := by
  obtain ⟨r, c', d', e4, e5, hr'⟩ := hst c0 d0 hr (xs (x3 + 1).toNatClampNeg)
  obtain ⟨hx, hb, hml, hown, hts, hK, hA, hz⟩ := id hc
  refine lv_aload_n hx hb dL_law_337 rfl (lv_at hl 1 rfl) ?_
  refine lv_aload_n hx hb dL_law_338 rfl (lv_at hl 0 rfl) ?_
  refine lv_iload_n hx hb dL_law_339 rfl (lv_at hl 3 rfl) ?_
  refine lv_iconst (v := 1) hx hb dL_law_340 (by decide) ?_
  refine lv_iadd hx hb dL_law_341 ?_
  refine va_sld hx hb hX hbl hbA hG.2.2 h1 dL_law_342 ?_
  refine y_viA (rest := []) hc hG (k4_tear ad c0 (xs (x3 + 1).toNatClampNeg) r c' e4) rfl rfl lL_27 ⟨rfl, rfl, by decide, by decide⟩ ⟨by decide, by decide⟩ rfl hl.1 (Nat.le_of_ble_eq_true rfl) rfl dL_law_343 (fun H locs hG => ?_)
  refine lv_aload_n hx hb dL_law_346 rfl (lv_at hl 2 rfl) ?_
  refine lv_aload_n hx hb dL_law_347 rfl (lv_at hl 0 rfl) ?_
  refine lv_iload_n hx hb dL_law_348 rfl (lv_at hl 3 rfl) ?_
  refine lv_iconst (v := 1) hx hb dL_law_349 (by decide) ?_
  refine lv_iadd hx hb dL_law_350 ?_
  refine va_sld hx hb hX hbl hbA hG.2.2 h1 dL_law_351 ?_
  refine y_viB (rest := [.int r]) hc hG (k5_tear bd d0 (xs (x3 + 1).toNatClampNeg) r d' e5) rfl rfl lL_31 ⟨rfl, rfl, by decide, by decide⟩ ⟨by decide, by decide⟩ rfl hl.1 (Nat.le_of_ble_eq_true rfl) rfl dL_law_352 (fun H locs hG => ?_)
  refine lv_icmp_eq (tgt := 1416) hx hb dL_law_355 (by decide) (fun _ => ?_) (fun q => absurd rfl q)
  exact kk c' d' hr' ls H locs hl hG
set_option maxRecDepth 100000 in
set_option maxHeartbeats 4000000 in
theorem lc_4 {p : Program} {l : Launch} {e : Env} {s : State} {m : MethodId} {below : List Frame} {meth : Method} {c : Code} {Q : State → Prop} {D : va_G} {cI : ClassId} {tL b L : Nat} {xs : Nat → Int32} {Rel : CS → MS → Prop} (hst : Step_copy Rel) (hc : Cx p s m #[Value.ref b] c D cI tL (fun q => s.heap.size ≤ q) code 4 RL) (hX : va_X b L xs s s.heap) (hbl : b < s.heap.size) (hbA : ¬ s.heap.size ≤ b) (ad bd : Nat → Nat) (x3 : Int32) (h1 : vp_in (x3 + 1) L) (h2 : vp_in (x3 + 2) L) (h3 : vp_in (x3 + 3) L) (h4 : vp_in (x3 + 4) L) (h5 : vp_in (x3 + 5) L) (c0 : CS) (d0 : MS) (hr : Rel c0 d0)
    (kk : ∀ (c1 : CS) (d1 : MS), Rel c1 d1 → ∀ (ls : Array Slot) (H : Heap) (locs : List Loc), lv_has ls 4 [(0, .ref b), (1, .ref (ad 0)), (2, .ref (bd 0)), (3, .int x3)] → St D (fun q => s.heap.size ≤ q) s (w4 cI ad c1 ++ w5 cI bd d1) H locs → W p l e room_1 s m #[Value.ref b] below meth c H locs 47 9681 Q (F0 m 1416 ls []))
    (ls : Array Slot) (H : Heap) (locs : List Loc) (hl : lv_has ls 4 [(0, .ref b), (1, .ref (ad 0)), (2, .ref (bd 0)), (3, .int x3)]) (hG : St D (fun q => s.heap.size ≤ q) s (w4 cI ad c0 ++ w5 cI bd d0) H locs) : W p l e room_1 s m #[Value.ref b] below meth c H locs 47 9681 Q (F0 m 360 ls []) := by
  obtain ⟨r, c', d', e4, e5, hr'⟩ := hst c0 d0 hr (xs (x3 + 1).toNatClampNeg) (xs (x3 + 2).toNatClampNeg) (xs (x3 + 3).toNatClampNeg) (xs (x3 + 4).toNatClampNeg) (xs (x3 + 5).toNatClampNeg)
  obtain ⟨hx, hb, hml, hown, hts, hK, hA, hz⟩ := id hc
  refine lv_aload_n hx hb dL_law_360 rfl (lv_at hl 1 rfl) ?_
  refine lv_aload_n hx hb dL_law_361 rfl (lv_at hl 0 rfl) ?_
  refine lv_iload_n hx hb dL_law_362 rfl (lv_at hl 3 rfl) ?_
  refine lv_iconst (v := 1) hx hb dL_law_363 (by decide) ?_
  refine lv_iadd hx hb dL_law_364 ?_
  refine va_sld hx hb hX hbl hbA hG.2.2 h1 dL_law_365 ?_
  refine lv_aload_n hx hb dL_law_366 rfl (lv_at hl 0 rfl) ?_
  refine lv_iload_n hx hb dL_law_367 rfl (lv_at hl 3 rfl) ?_
  refine lv_iconst (v := 2) hx hb dL_law_368 (by decide) ?_
  refine lv_iadd hx hb dL_law_369 ?_
  refine va_sld hx hb hX hbl hbA hG.2.2 h2 dL_law_370 ?_
  refine lv_aload_n hx hb dL_law_371 rfl (lv_at hl 0 rfl) ?_
  refine lv_iload_n hx hb dL_law_372 rfl (lv_at hl 3 rfl) ?_
  refine lv_iconst (v := 3) hx hb dL_law_373 (by decide) ?_
  refine lv_iadd hx hb dL_law_374 ?_
  refine va_sld hx hb hX hbl hbA hG.2.2 h3 dL_law_375 ?_
  refine lv_aload_n hx hb dL_law_376 rfl (lv_at hl 0 rfl) ?_
  refine lv_iload_n hx hb dL_law_377 rfl (lv_at hl 3 rfl) ?_
  refine lv_iconst (v := 4) hx hb dL_law_378 (by decide) ?_
  refine lv_iadd hx hb dL_law_379 ?_
  refine va_sld hx hb hX hbl hbA hG.2.2 h4 dL_law_380 ?_
  refine lv_aload_n hx hb dL_law_381 rfl (lv_at hl 0 rfl) ?_
  refine lv_iload_n hx hb dL_law_382 rfl (lv_at hl 3 rfl) ?_
  refine lv_iconst (v := 5) hx hb dL_law_383 (by decide) ?_
  refine lv_iadd hx hb dL_law_384 ?_
  refine va_sld hx hb hX hbl hbA hG.2.2 h5 dL_law_385 ?_
  refine y_viA (rest := []) hc hG (k4_copy ad c0 (xs (x3 + 1).toNatClampNeg) (xs (x3 + 2).toNatClampNeg) (xs (x3 + 3).toNatClampNeg) (xs (x3 + 4).toNatClampNeg) (xs (x3 + 5).toNatClampNeg) r c' e4) rfl rfl lL_32 ⟨rfl, rfl, by decide, by decide⟩ ⟨by decide, by decide⟩ rfl hl.1 (Nat.le_of_ble_eq_true rfl) rfl dL_law_386 (fun H locs hG => ?_)
  refine lv_aload_n hx hb dL_law_389 rfl (lv_at hl 2 rfl) ?_
  refine lv_aload_n hx hb dL_law_390 rfl (lv_at hl 0 rfl) ?_
  refine lv_iload_n hx hb dL_law_391 rfl (lv_at hl 3 rfl) ?_
  refine lv_iconst (v := 1) hx hb dL_law_392 (by decide) ?_
  refine lv_iadd hx hb dL_law_393 ?_
  refine va_sld hx hb hX hbl hbA hG.2.2 h1 dL_law_394 ?_
  refine lv_aload_n hx hb dL_law_395 rfl (lv_at hl 0 rfl) ?_
  refine lv_iload_n hx hb dL_law_396 rfl (lv_at hl 3 rfl) ?_
  refine lv_iconst (v := 2) hx hb dL_law_397 (by decide) ?_
  refine lv_iadd hx hb dL_law_398 ?_
  refine va_sld hx hb hX hbl hbA hG.2.2 h2 dL_law_399 ?_
  refine lv_aload_n hx hb dL_law_400 rfl (lv_at hl 0 rfl) ?_
  refine lv_iload_n hx hb dL_law_401 rfl (lv_at hl 3 rfl) ?_
  refine lv_iconst (v := 3) hx hb dL_law_402 (by decide) ?_
  refine lv_iadd hx hb dL_law_403 ?_
  refine va_sld hx hb hX hbl hbA hG.2.2 h3 dL_law_404 ?_
  refine lv_aload_n hx hb dL_law_405 rfl (lv_at hl 0 rfl) ?_
  refine lv_iload_n hx hb dL_law_406 rfl (lv_at hl 3 rfl) ?_
  refine lv_iconst (v := 4) hx hb dL_law_407 (by decide) ?_
  refine lv_iadd hx hb dL_law_408 ?_
  refine va_sld hx hb hX hbl hbA hG.2.2 h4 dL_law_409 ?_
  refine lv_aload_n hx hb dL_law_410 rfl (lv_at hl 0 rfl) ?_
  refine lv_iload_n hx hb dL_law_411 rfl (lv_at hl 3 rfl) ?_
  refine lv_iconst (v := 5) hx hb dL_law_412 (by decide) ?_
  refine lv_iadd hx hb dL_law_413 ?_
  refine va_sld hx hb hX hbl hbA hG.2.2 h5 dL_law_414 ?_
  refine y_viB (rest := [.int r]) hc hG (k5_copy bd d0 (xs (x3 + 1).toNatClampNeg) (xs (x3 + 2).toNatClampNeg) (xs (x3 + 3).toNatClampNeg) (xs (x3 + 4).toNatClampNeg) (xs (x3 + 5).toNatClampNeg) r d' e5) rfl rfl lL_36 ⟨rfl, rfl, by decide, by decide⟩ ⟨by decide, by decide⟩ rfl hl.1 (Nat.le_of_ble_eq_true rfl) rfl dL_law_415 (fun H locs hG => ?_)
  refine lv_icmp_eq (tgt := 1416) hx hb dL_law_418 (by decide) (fun _ => ?_) (fun q => absurd rfl q)
  exact kk c' d' hr' ls H locs hl hG
set_option maxRecDepth 100000 in
set_option maxHeartbeats 4000000 in
theorem lc_5 {p : Program} {l : Launch} {e : Env} {s : State} {m : MethodId} {below : List Frame} {meth : Method} {c : Code} {Q : State → Prop} {D : va_G} {cI : ClassId} {tL b L : Nat} {xs : Nat → Int32} {Rel : CS → MS → Prop} (hst : Step_mean Rel) (hc : Cx p s m #[Value.ref b] c D cI tL (fun q => s.heap.size ≤ q) code 4 RL) (hX : va_X b L xs s s.heap) (hbl : b < s.heap.size) (hbA : ¬ s.heap.size ≤ b) (ad bd : Nat → Nat) (x3 : Int32) (h1 : vp_in (x3 + 1) L) (h2 : vp_in (x3 + 2) L) (h3 : vp_in (x3 + 3) L) (h4 : vp_in (x3 + 4) L) (h5 : vp_in (x3 + 5) L) (c0 : CS) (d0 : MS) (hr : Rel c0 d0)
    (kk : ∀ (c1 : CS) (d1 : MS), Rel c1 d1 → ∀ (ls : Array Slot) (H : Heap) (locs : List Loc), lv_has ls 4 [(0, .ref b), (1, .ref (ad 0)), (2, .ref (bd 0)), (3, .int x3)] → St D (fun q => s.heap.size ≤ q) s (w4 cI ad c1 ++ w5 cI bd d1) H locs → W p l e room_1 s m #[Value.ref b] below meth c H locs 47 9681 Q (F0 m 1416 ls []))
    (ls : Array Slot) (H : Heap) (locs : List Loc) (hl : lv_has ls 4 [(0, .ref b), (1, .ref (ad 0)), (2, .ref (bd 0)), (3, .int x3)]) (hG : St D (fun q => s.heap.size ≤ q) s (w4 cI ad c0 ++ w5 cI bd d0) H locs) : W p l e room_1 s m #[Value.ref b] below meth c H locs 47 9681 Q (F0 m 423 ls []) := by
  obtain ⟨r, c', d', e4, e5, hr'⟩ := hst c0 d0 hr (xs (x3 + 1).toNatClampNeg)
  obtain ⟨hx, hb, hml, hown, hts, hK, hA, hz⟩ := id hc
  refine lv_aload_n hx hb dL_law_423 rfl (lv_at hl 1 rfl) ?_
  refine lv_aload_n hx hb dL_law_424 rfl (lv_at hl 0 rfl) ?_
  refine lv_iload_n hx hb dL_law_425 rfl (lv_at hl 3 rfl) ?_
  refine lv_iconst (v := 1) hx hb dL_law_426 (by decide) ?_
  refine lv_iadd hx hb dL_law_427 ?_
  refine va_sld hx hb hX hbl hbA hG.2.2 h1 dL_law_428 ?_
  refine y_viA (rest := []) hc hG (k4_mean ad c0 (xs (x3 + 1).toNatClampNeg) r c' e4) rfl rfl lL_37 ⟨rfl, rfl, by decide, by decide⟩ ⟨by decide, by decide⟩ rfl hl.1 (Nat.le_of_ble_eq_true rfl) rfl dL_law_429 (fun H locs hG => ?_)
  refine lv_aload_n hx hb dL_law_432 rfl (lv_at hl 2 rfl) ?_
  refine lv_aload_n hx hb dL_law_433 rfl (lv_at hl 0 rfl) ?_
  refine lv_iload_n hx hb dL_law_434 rfl (lv_at hl 3 rfl) ?_
  refine lv_iconst (v := 1) hx hb dL_law_435 (by decide) ?_
  refine lv_iadd hx hb dL_law_436 ?_
  refine va_sld hx hb hX hbl hbA hG.2.2 h1 dL_law_437 ?_
  refine y_viB (rest := [.int r]) hc hG (k5_mean bd d0 (xs (x3 + 1).toNatClampNeg) r d' e5) rfl rfl lL_40 ⟨rfl, rfl, by decide, by decide⟩ ⟨by decide, by decide⟩ rfl hl.1 (Nat.le_of_ble_eq_true rfl) rfl dL_law_438 (fun H locs hG => ?_)
  refine lv_icmp_eq (tgt := 1416) hx hb dL_law_441 (by decide) (fun _ => ?_) (fun q => absurd rfl q)
  exact kk c' d' hr' ls H locs hl hG
set_option maxRecDepth 100000 in
set_option maxHeartbeats 4000000 in
theorem lc_6 {p : Program} {l : Launch} {e : Env} {s : State} {m : MethodId} {below : List Frame} {meth : Method} {c : Code} {Q : State → Prop} {D : va_G} {cI : ClassId} {tL b L : Nat} {xs : Nat → Int32} {Rel : CS → MS → Prop} (hst : Step_text Rel) (hc : Cx p s m #[Value.ref b] c D cI tL (fun q => s.heap.size ≤ q) code 4 RL) (hX : va_X b L xs s s.heap) (hbl : b < s.heap.size) (hbA : ¬ s.heap.size ≤ b) (ad bd : Nat → Nat) (x3 : Int32) (h1 : vp_in (x3 + 1) L) (h2 : vp_in (x3 + 2) L) (h3 : vp_in (x3 + 3) L) (h4 : vp_in (x3 + 4) L) (h5 : vp_in (x3 + 5) L) (c0 : CS) (d0 : MS) (hr : Rel c0 d0)
    (kk : ∀ (c1 : CS) (d1 : MS), Rel c1 d1 → ∀ (ls : Array Slot) (H : Heap) (locs : List Loc), lv_has ls 4 [(0, .ref b), (1, .ref (ad 0)), (2, .ref (bd 0)), (3, .int x3)] → St D (fun q => s.heap.size ≤ q) s (w4 cI ad c1 ++ w5 cI bd d1) H locs → W p l e room_1 s m #[Value.ref b] below meth c H locs 47 9681 Q (F0 m 1416 ls []))
    (ls : Array Slot) (H : Heap) (locs : List Loc) (hl : lv_has ls 4 [(0, .ref b), (1, .ref (ad 0)), (2, .ref (bd 0)), (3, .int x3)]) (hG : St D (fun q => s.heap.size ≤ q) s (w4 cI ad c0 ++ w5 cI bd d0) H locs) : W p l e room_1 s m #[Value.ref b] below meth c H locs 47 9681 Q (F0 m 446 ls []) := by
  obtain ⟨r, c', d', e4, e5, hr'⟩ := hst c0 d0 hr (xs (x3 + 1).toNatClampNeg) (xs (x3 + 2).toNatClampNeg)
  obtain ⟨hx, hb, hml, hown, hts, hK, hA, hz⟩ := id hc
  refine lv_aload_n hx hb dL_law_446 rfl (lv_at hl 1 rfl) ?_
  refine lv_aload_n hx hb dL_law_447 rfl (lv_at hl 0 rfl) ?_
  refine lv_iload_n hx hb dL_law_448 rfl (lv_at hl 3 rfl) ?_
  refine lv_iconst (v := 1) hx hb dL_law_449 (by decide) ?_
  refine lv_iadd hx hb dL_law_450 ?_
  refine va_sld hx hb hX hbl hbA hG.2.2 h1 dL_law_451 ?_
  refine lv_aload_n hx hb dL_law_452 rfl (lv_at hl 0 rfl) ?_
  refine lv_iload_n hx hb dL_law_453 rfl (lv_at hl 3 rfl) ?_
  refine lv_iconst (v := 2) hx hb dL_law_454 (by decide) ?_
  refine lv_iadd hx hb dL_law_455 ?_
  refine va_sld hx hb hX hbl hbA hG.2.2 h2 dL_law_456 ?_
  refine y_viA (rest := []) hc hG (k4_text ad c0 (xs (x3 + 1).toNatClampNeg) (xs (x3 + 2).toNatClampNeg) r c' e4) rfl rfl lL_41 ⟨rfl, rfl, by decide, by decide⟩ ⟨by decide, by decide⟩ rfl hl.1 (Nat.le_of_ble_eq_true rfl) rfl dL_law_457 (fun H locs hG => ?_)
  refine lv_aload_n hx hb dL_law_460 rfl (lv_at hl 2 rfl) ?_
  refine lv_aload_n hx hb dL_law_461 rfl (lv_at hl 0 rfl) ?_
  refine lv_iload_n hx hb dL_law_462 rfl (lv_at hl 3 rfl) ?_
  refine lv_iconst (v := 1) hx hb dL_law_463 (by decide) ?_
  refine lv_iadd hx hb dL_law_464 ?_
  refine va_sld hx hb hX hbl hbA hG.2.2 h1 dL_law_465 ?_
  refine lv_aload_n hx hb dL_law_466 rfl (lv_at hl 0 rfl) ?_
  refine lv_iload_n hx hb dL_law_467 rfl (lv_at hl 3 rfl) ?_
  refine lv_iconst (v := 2) hx hb dL_law_468 (by decide) ?_
  refine lv_iadd hx hb dL_law_469 ?_
  refine va_sld hx hb hX hbl hbA hG.2.2 h2 dL_law_470 ?_
  refine y_viB (rest := [.int r]) hc hG (k5_text bd d0 (xs (x3 + 1).toNatClampNeg) (xs (x3 + 2).toNatClampNeg) r d' e5) rfl rfl lL_44 ⟨rfl, rfl, by decide, by decide⟩ ⟨by decide, by decide⟩ rfl hl.1 (Nat.le_of_ble_eq_true rfl) rfl dL_law_471 (fun H locs hG => ?_)
  refine lv_icmp_eq (tgt := 1416) hx hb dL_law_474 (by decide) (fun _ => ?_) (fun q => absurd rfl q)
  exact kk c' d' hr' ls H locs hl hG
set_option maxRecDepth 100000 in
set_option maxHeartbeats 4000000 in
theorem lc_7 {p : Program} {l : Launch} {e : Env} {s : State} {m : MethodId} {below : List Frame} {meth : Method} {c : Code} {Q : State → Prop} {D : va_G} {cI : ClassId} {tL b L : Nat} {xs : Nat → Int32} {Rel : CS → MS → Prop} (hst : Step_put Rel) (hc : Cx p s m #[Value.ref b] c D cI tL (fun q => s.heap.size ≤ q) code 4 RL) (hX : va_X b L xs s s.heap) (hbl : b < s.heap.size) (hbA : ¬ s.heap.size ≤ b) (ad bd : Nat → Nat) (x3 : Int32) (h1 : vp_in (x3 + 1) L) (h2 : vp_in (x3 + 2) L) (h3 : vp_in (x3 + 3) L) (h4 : vp_in (x3 + 4) L) (h5 : vp_in (x3 + 5) L) (c0 : CS) (d0 : MS) (hr : Rel c0 d0)
    (kk : ∀ (c1 : CS) (d1 : MS), Rel c1 d1 → ∀ (ls : Array Slot) (H : Heap) (locs : List Loc), lv_has ls 4 [(0, .ref b), (1, .ref (ad 0)), (2, .ref (bd 0)), (3, .int x3)] → St D (fun q => s.heap.size ≤ q) s (w4 cI ad c1 ++ w5 cI bd d1) H locs → W p l e room_1 s m #[Value.ref b] below meth c H locs 47 9681 Q (F0 m 1416 ls []))
    (ls : Array Slot) (H : Heap) (locs : List Loc) (hl : lv_has ls 4 [(0, .ref b), (1, .ref (ad 0)), (2, .ref (bd 0)), (3, .int x3)]) (hG : St D (fun q => s.heap.size ≤ q) s (w4 cI ad c0 ++ w5 cI bd d0) H locs) : W p l e room_1 s m #[Value.ref b] below meth c H locs 47 9681 Q (F0 m 479 ls []) := by
  obtain ⟨r, c', d', e4, e5, hr'⟩ := hst c0 d0 hr (xs (x3 + 1).toNatClampNeg) (xs (x3 + 2).toNatClampNeg) (xs (x3 + 3).toNatClampNeg)
  obtain ⟨hx, hb, hml, hown, hts, hK, hA, hz⟩ := id hc
  refine lv_aload_n hx hb dL_law_479 rfl (lv_at hl 1 rfl) ?_
  refine lv_aload_n hx hb dL_law_480 rfl (lv_at hl 0 rfl) ?_
  refine lv_iload_n hx hb dL_law_481 rfl (lv_at hl 3 rfl) ?_
  refine lv_iconst (v := 1) hx hb dL_law_482 (by decide) ?_
  refine lv_iadd hx hb dL_law_483 ?_
  refine va_sld hx hb hX hbl hbA hG.2.2 h1 dL_law_484 ?_
  refine lv_aload_n hx hb dL_law_485 rfl (lv_at hl 0 rfl) ?_
  refine lv_iload_n hx hb dL_law_486 rfl (lv_at hl 3 rfl) ?_
  refine lv_iconst (v := 2) hx hb dL_law_487 (by decide) ?_
  refine lv_iadd hx hb dL_law_488 ?_
  refine va_sld hx hb hX hbl hbA hG.2.2 h2 dL_law_489 ?_
  refine lv_aload_n hx hb dL_law_490 rfl (lv_at hl 0 rfl) ?_
  refine lv_iload_n hx hb dL_law_491 rfl (lv_at hl 3 rfl) ?_
  refine lv_iconst (v := 3) hx hb dL_law_492 (by decide) ?_
  refine lv_iadd hx hb dL_law_493 ?_
  refine va_sld hx hb hX hbl hbA hG.2.2 h3 dL_law_494 ?_
  refine y_viA (rest := []) hc hG (k4_put ad c0 (xs (x3 + 1).toNatClampNeg) (xs (x3 + 2).toNatClampNeg) (xs (x3 + 3).toNatClampNeg) r c' e4) rfl rfl lL_45 ⟨rfl, rfl, by decide, by decide⟩ ⟨by decide, by decide⟩ rfl hl.1 (Nat.le_of_ble_eq_true rfl) rfl dL_law_495 (fun H locs hG => ?_)
  refine lv_aload_n hx hb dL_law_498 rfl (lv_at hl 2 rfl) ?_
  refine lv_aload_n hx hb dL_law_499 rfl (lv_at hl 0 rfl) ?_
  refine lv_iload_n hx hb dL_law_500 rfl (lv_at hl 3 rfl) ?_
  refine lv_iconst (v := 1) hx hb dL_law_501 (by decide) ?_
  refine lv_iadd hx hb dL_law_502 ?_
  refine va_sld hx hb hX hbl hbA hG.2.2 h1 dL_law_503 ?_
  refine lv_aload_n hx hb dL_law_504 rfl (lv_at hl 0 rfl) ?_
  refine lv_iload_n hx hb dL_law_505 rfl (lv_at hl 3 rfl) ?_
  refine lv_iconst (v := 2) hx hb dL_law_506 (by decide) ?_
  refine lv_iadd hx hb dL_law_507 ?_
  refine va_sld hx hb hX hbl hbA hG.2.2 h2 dL_law_508 ?_
  refine lv_aload_n hx hb dL_law_509 rfl (lv_at hl 0 rfl) ?_
  refine lv_iload_n hx hb dL_law_510 rfl (lv_at hl 3 rfl) ?_
  refine lv_iconst (v := 3) hx hb dL_law_511 (by decide) ?_
  refine lv_iadd hx hb dL_law_512 ?_
  refine va_sld hx hb hX hbl hbA hG.2.2 h3 dL_law_513 ?_
  refine y_viB (rest := [.int r]) hc hG (k5_put bd d0 (xs (x3 + 1).toNatClampNeg) (xs (x3 + 2).toNatClampNeg) (xs (x3 + 3).toNatClampNeg) r d' e5) rfl rfl lL_48 ⟨rfl, rfl, by decide, by decide⟩ ⟨by decide, by decide⟩ rfl hl.1 (Nat.le_of_ble_eq_true rfl) rfl dL_law_514 (fun H locs hG => ?_)
  refine lv_icmp_eq (tgt := 1416) hx hb dL_law_517 (by decide) (fun _ => ?_) (fun q => absurd rfl q)
  exact kk c' d' hr' ls H locs hl hG
set_option maxRecDepth 100000 in
set_option maxHeartbeats 4000000 in
theorem lc_8 {p : Program} {l : Launch} {e : Env} {s : State} {m : MethodId} {below : List Frame} {meth : Method} {c : Code} {Q : State → Prop} {D : va_G} {cI : ClassId} {tL b L : Nat} {xs : Nat → Int32} {Rel : CS → MS → Prop} (hst : Step_fault Rel) (hc : Cx p s m #[Value.ref b] c D cI tL (fun q => s.heap.size ≤ q) code 4 RL) (hX : va_X b L xs s s.heap) (hbl : b < s.heap.size) (hbA : ¬ s.heap.size ≤ b) (ad bd : Nat → Nat) (x3 : Int32) (h1 : vp_in (x3 + 1) L) (h2 : vp_in (x3 + 2) L) (h3 : vp_in (x3 + 3) L) (h4 : vp_in (x3 + 4) L) (h5 : vp_in (x3 + 5) L) (c0 : CS) (d0 : MS) (hr : Rel c0 d0)
    (kk : ∀ (c1 : CS) (d1 : MS), Rel c1 d1 → ∀ (ls : Array Slot) (H : Heap) (locs : List Loc), lv_has ls 4 [(0, .ref b), (1, .ref (ad 0)), (2, .ref (bd 0)), (3, .int x3)] → St D (fun q => s.heap.size ≤ q) s (w4 cI ad c1 ++ w5 cI bd d1) H locs → W p l e room_1 s m #[Value.ref b] below meth c H locs 47 9681 Q (F0 m 1416 ls []))
    (ls : Array Slot) (H : Heap) (locs : List Loc) (hl : lv_has ls 4 [(0, .ref b), (1, .ref (ad 0)), (2, .ref (bd 0)), (3, .int x3)]) (hG : St D (fun q => s.heap.size ≤ q) s (w4 cI ad c0 ++ w5 cI bd d0) H locs) : W p l e room_1 s m #[Value.ref b] below meth c H locs 47 9681 Q (F0 m 522 ls []) := by
  obtain ⟨r, c', d', e4, e5, hr'⟩ := hst c0 d0 hr (xs (x3 + 1).toNatClampNeg)
  obtain ⟨hx, hb, hml, hown, hts, hK, hA, hz⟩ := id hc
  refine lv_aload_n hx hb dL_law_522 rfl (lv_at hl 1 rfl) ?_
  refine lv_aload_n hx hb dL_law_523 rfl (lv_at hl 0 rfl) ?_
  refine lv_iload_n hx hb dL_law_524 rfl (lv_at hl 3 rfl) ?_
  refine lv_iconst (v := 1) hx hb dL_law_525 (by decide) ?_
  refine lv_iadd hx hb dL_law_526 ?_
  refine va_sld hx hb hX hbl hbA hG.2.2 h1 dL_law_527 ?_
  refine y_viA (rest := []) hc hG (k4_fault ad c0 (xs (x3 + 1).toNatClampNeg) r c' e4) rfl rfl lL_49 ⟨rfl, rfl, by decide, by decide⟩ ⟨by decide, by decide⟩ rfl hl.1 (Nat.le_of_ble_eq_true rfl) rfl dL_law_528 (fun H locs hG => ?_)
  refine lv_aload_n hx hb dL_law_531 rfl (lv_at hl 2 rfl) ?_
  refine lv_aload_n hx hb dL_law_532 rfl (lv_at hl 0 rfl) ?_
  refine lv_iload_n hx hb dL_law_533 rfl (lv_at hl 3 rfl) ?_
  refine lv_iconst (v := 1) hx hb dL_law_534 (by decide) ?_
  refine lv_iadd hx hb dL_law_535 ?_
  refine va_sld hx hb hX hbl hbA hG.2.2 h1 dL_law_536 ?_
  refine y_viB (rest := [.int r]) hc hG (k5_fault bd d0 (xs (x3 + 1).toNatClampNeg) r d' e5) rfl rfl lL_52 ⟨rfl, rfl, by decide, by decide⟩ ⟨by decide, by decide⟩ rfl hl.1 (Nat.le_of_ble_eq_true rfl) rfl dL_law_537 (fun H locs hG => ?_)
  refine lv_icmp_eq (tgt := 1416) hx hb dL_law_540 (by decide) (fun _ => ?_) (fun q => absurd rfl q)
  exact kk c' d' hr' ls H locs hl hG
set_option maxRecDepth 100000 in
set_option maxHeartbeats 4000000 in
theorem lc_9 {p : Program} {l : Launch} {e : Env} {s : State} {m : MethodId} {below : List Frame} {meth : Method} {c : Code} {Q : State → Prop} {D : va_G} {cI : ClassId} {tL b L : Nat} {xs : Nat → Int32} {Rel : CS → MS → Prop} (hst : Step_slice Rel) (hc : Cx p s m #[Value.ref b] c D cI tL (fun q => s.heap.size ≤ q) code 4 RL) (hX : va_X b L xs s s.heap) (hbl : b < s.heap.size) (hbA : ¬ s.heap.size ≤ b) (ad bd : Nat → Nat) (x3 : Int32) (h1 : vp_in (x3 + 1) L) (h2 : vp_in (x3 + 2) L) (h3 : vp_in (x3 + 3) L) (h4 : vp_in (x3 + 4) L) (h5 : vp_in (x3 + 5) L) (c0 : CS) (d0 : MS) (hr : Rel c0 d0)
    (kk : ∀ (c1 : CS) (d1 : MS), Rel c1 d1 → ∀ (ls : Array Slot) (H : Heap) (locs : List Loc), lv_has ls 4 [(0, .ref b), (1, .ref (ad 0)), (2, .ref (bd 0)), (3, .int x3)] → St D (fun q => s.heap.size ≤ q) s (w4 cI ad c1 ++ w5 cI bd d1) H locs → W p l e room_1 s m #[Value.ref b] below meth c H locs 47 9681 Q (F0 m 1416 ls []))
    (ls : Array Slot) (H : Heap) (locs : List Loc) (hl : lv_has ls 4 [(0, .ref b), (1, .ref (ad 0)), (2, .ref (bd 0)), (3, .int x3)]) (hG : St D (fun q => s.heap.size ≤ q) s (w4 cI ad c0 ++ w5 cI bd d0) H locs) : W p l e room_1 s m #[Value.ref b] below meth c H locs 47 9681 Q (F0 m 545 ls []) := by
  obtain ⟨r, c', d', e4, e5, hr'⟩ := hst c0 d0 hr (xs (x3 + 1).toNatClampNeg)
  obtain ⟨hx, hb, hml, hown, hts, hK, hA, hz⟩ := id hc
  refine lv_aload_n hx hb dL_law_545 rfl (lv_at hl 1 rfl) ?_
  refine lv_aload_n hx hb dL_law_546 rfl (lv_at hl 0 rfl) ?_
  refine lv_iload_n hx hb dL_law_547 rfl (lv_at hl 3 rfl) ?_
  refine lv_iconst (v := 1) hx hb dL_law_548 (by decide) ?_
  refine lv_iadd hx hb dL_law_549 ?_
  refine va_sld hx hb hX hbl hbA hG.2.2 h1 dL_law_550 ?_
  refine y_viA (rest := []) hc hG (k4_slice ad c0 (xs (x3 + 1).toNatClampNeg) r c' e4) rfl rfl lL_53 ⟨rfl, rfl, by decide, by decide⟩ ⟨by decide, by decide⟩ rfl hl.1 (Nat.le_of_ble_eq_true rfl) rfl dL_law_551 (fun H locs hG => ?_)
  refine lv_aload_n hx hb dL_law_554 rfl (lv_at hl 2 rfl) ?_
  refine lv_aload_n hx hb dL_law_555 rfl (lv_at hl 0 rfl) ?_
  refine lv_iload_n hx hb dL_law_556 rfl (lv_at hl 3 rfl) ?_
  refine lv_iconst (v := 1) hx hb dL_law_557 (by decide) ?_
  refine lv_iadd hx hb dL_law_558 ?_
  refine va_sld hx hb hX hbl hbA hG.2.2 h1 dL_law_559 ?_
  refine y_viB (rest := [.int r]) hc hG (k5_slice bd d0 (xs (x3 + 1).toNatClampNeg) r d' e5) rfl rfl lL_56 ⟨rfl, rfl, by decide, by decide⟩ ⟨by decide, by decide⟩ rfl hl.1 (Nat.le_of_ble_eq_true rfl) rfl dL_law_560 (fun H locs hG => ?_)
  refine lv_icmp_eq (tgt := 1416) hx hb dL_law_563 (by decide) (fun _ => ?_) (fun q => absurd rfl q)
  exact kk c' d' hr' ls H locs hl hG
set_option maxRecDepth 100000 in
set_option maxHeartbeats 4000000 in
theorem lc_10 {p : Program} {l : Launch} {e : Env} {s : State} {m : MethodId} {below : List Frame} {meth : Method} {c : Code} {Q : State → Prop} {D : va_G} {cI : ClassId} {tL b L : Nat} {xs : Nat → Int32} {Rel : CS → MS → Prop} (hst : Step_peel Rel) (hc : Cx p s m #[Value.ref b] c D cI tL (fun q => s.heap.size ≤ q) code 4 RL) (hX : va_X b L xs s s.heap) (hbl : b < s.heap.size) (hbA : ¬ s.heap.size ≤ b) (ad bd : Nat → Nat) (x3 : Int32) (h1 : vp_in (x3 + 1) L) (h2 : vp_in (x3 + 2) L) (h3 : vp_in (x3 + 3) L) (h4 : vp_in (x3 + 4) L) (h5 : vp_in (x3 + 5) L) (c0 : CS) (d0 : MS) (hr : Rel c0 d0)
    (kk : ∀ (c1 : CS) (d1 : MS), Rel c1 d1 → ∀ (ls : Array Slot) (H : Heap) (locs : List Loc), lv_has ls 4 [(0, .ref b), (1, .ref (ad 0)), (2, .ref (bd 0)), (3, .int x3)] → St D (fun q => s.heap.size ≤ q) s (w4 cI ad c1 ++ w5 cI bd d1) H locs → W p l e room_1 s m #[Value.ref b] below meth c H locs 47 9681 Q (F0 m 1416 ls []))
    (ls : Array Slot) (H : Heap) (locs : List Loc) (hl : lv_has ls 4 [(0, .ref b), (1, .ref (ad 0)), (2, .ref (bd 0)), (3, .int x3)]) (hG : St D (fun q => s.heap.size ≤ q) s (w4 cI ad c0 ++ w5 cI bd d0) H locs) : W p l e room_1 s m #[Value.ref b] below meth c H locs 47 9681 Q (F0 m 568 ls []) := by
  obtain ⟨r, c', d', e4, e5, hr'⟩ := hst c0 d0 hr (xs (x3 + 1).toNatClampNeg) (xs (x3 + 2).toNatClampNeg)
  obtain ⟨hx, hb, hml, hown, hts, hK, hA, hz⟩ := id hc
  refine lv_aload_n hx hb dL_law_568 rfl (lv_at hl 1 rfl) ?_
  refine lv_aload_n hx hb dL_law_569 rfl (lv_at hl 0 rfl) ?_
  refine lv_iload_n hx hb dL_law_570 rfl (lv_at hl 3 rfl) ?_
  refine lv_iconst (v := 1) hx hb dL_law_571 (by decide) ?_
  refine lv_iadd hx hb dL_law_572 ?_
  refine va_sld hx hb hX hbl hbA hG.2.2 h1 dL_law_573 ?_
  refine lv_aload_n hx hb dL_law_574 rfl (lv_at hl 0 rfl) ?_
  refine lv_iload_n hx hb dL_law_575 rfl (lv_at hl 3 rfl) ?_
  refine lv_iconst (v := 2) hx hb dL_law_576 (by decide) ?_
  refine lv_iadd hx hb dL_law_577 ?_
  refine va_sld hx hb hX hbl hbA hG.2.2 h2 dL_law_578 ?_
  refine y_viA (rest := []) hc hG (k4_peel ad c0 (xs (x3 + 1).toNatClampNeg) (xs (x3 + 2).toNatClampNeg) r c' e4) rfl rfl lL_57 ⟨rfl, rfl, by decide, by decide⟩ ⟨by decide, by decide⟩ rfl hl.1 (Nat.le_of_ble_eq_true rfl) rfl dL_law_579 (fun H locs hG => ?_)
  refine lv_aload_n hx hb dL_law_582 rfl (lv_at hl 2 rfl) ?_
  refine lv_aload_n hx hb dL_law_583 rfl (lv_at hl 0 rfl) ?_
  refine lv_iload_n hx hb dL_law_584 rfl (lv_at hl 3 rfl) ?_
  refine lv_iconst (v := 1) hx hb dL_law_585 (by decide) ?_
  refine lv_iadd hx hb dL_law_586 ?_
  refine va_sld hx hb hX hbl hbA hG.2.2 h1 dL_law_587 ?_
  refine lv_aload_n hx hb dL_law_588 rfl (lv_at hl 0 rfl) ?_
  refine lv_iload_n hx hb dL_law_589 rfl (lv_at hl 3 rfl) ?_
  refine lv_iconst (v := 2) hx hb dL_law_590 (by decide) ?_
  refine lv_iadd hx hb dL_law_591 ?_
  refine va_sld hx hb hX hbl hbA hG.2.2 h2 dL_law_592 ?_
  refine y_viB (rest := [.int r]) hc hG (k5_peel bd d0 (xs (x3 + 1).toNatClampNeg) (xs (x3 + 2).toNatClampNeg) r d' e5) rfl rfl lL_60 ⟨rfl, rfl, by decide, by decide⟩ ⟨by decide, by decide⟩ rfl hl.1 (Nat.le_of_ble_eq_true rfl) rfl dL_law_593 (fun H locs hG => ?_)
  refine lv_icmp_eq (tgt := 1416) hx hb dL_law_596 (by decide) (fun _ => ?_) (fun q => absurd rfl q)
  exact kk c' d' hr' ls H locs hl hG
set_option maxRecDepth 100000 in
set_option maxHeartbeats 4000000 in
theorem lc_11 {p : Program} {l : Launch} {e : Env} {s : State} {m : MethodId} {below : List Frame} {meth : Method} {c : Code} {Q : State → Prop} {D : va_G} {cI : ClassId} {tL b L : Nat} {xs : Nat → Int32} {Rel : CS → MS → Prop} (hst : Step_mark Rel) (hc : Cx p s m #[Value.ref b] c D cI tL (fun q => s.heap.size ≤ q) code 4 RL) (hX : va_X b L xs s s.heap) (hbl : b < s.heap.size) (hbA : ¬ s.heap.size ≤ b) (ad bd : Nat → Nat) (x3 : Int32) (h1 : vp_in (x3 + 1) L) (h2 : vp_in (x3 + 2) L) (h3 : vp_in (x3 + 3) L) (h4 : vp_in (x3 + 4) L) (h5 : vp_in (x3 + 5) L) (c0 : CS) (d0 : MS) (hr : Rel c0 d0)
    (kk : ∀ (c1 : CS) (d1 : MS), Rel c1 d1 → ∀ (ls : Array Slot) (H : Heap) (locs : List Loc), lv_has ls 4 [(0, .ref b), (1, .ref (ad 0)), (2, .ref (bd 0)), (3, .int x3)] → St D (fun q => s.heap.size ≤ q) s (w4 cI ad c1 ++ w5 cI bd d1) H locs → W p l e room_1 s m #[Value.ref b] below meth c H locs 47 9681 Q (F0 m 1416 ls []))
    (ls : Array Slot) (H : Heap) (locs : List Loc) (hl : lv_has ls 4 [(0, .ref b), (1, .ref (ad 0)), (2, .ref (bd 0)), (3, .int x3)]) (hG : St D (fun q => s.heap.size ≤ q) s (w4 cI ad c0 ++ w5 cI bd d0) H locs) : W p l e room_1 s m #[Value.ref b] below meth c H locs 47 9681 Q (F0 m 601 ls []) := by
  obtain ⟨r, c', d', e4, e5, hr'⟩ := hst c0 d0 hr (xs (x3 + 1).toNatClampNeg) (xs (x3 + 2).toNatClampNeg)
  obtain ⟨hx, hb, hml, hown, hts, hK, hA, hz⟩ := id hc
  refine lv_aload_n hx hb dL_law_601 rfl (lv_at hl 1 rfl) ?_
  refine lv_aload_n hx hb dL_law_602 rfl (lv_at hl 0 rfl) ?_
  refine lv_iload_n hx hb dL_law_603 rfl (lv_at hl 3 rfl) ?_
  refine lv_iconst (v := 1) hx hb dL_law_604 (by decide) ?_
  refine lv_iadd hx hb dL_law_605 ?_
  refine va_sld hx hb hX hbl hbA hG.2.2 h1 dL_law_606 ?_
  refine lv_aload_n hx hb dL_law_607 rfl (lv_at hl 0 rfl) ?_
  refine lv_iload_n hx hb dL_law_608 rfl (lv_at hl 3 rfl) ?_
  refine lv_iconst (v := 2) hx hb dL_law_609 (by decide) ?_
  refine lv_iadd hx hb dL_law_610 ?_
  refine va_sld hx hb hX hbl hbA hG.2.2 h2 dL_law_611 ?_
  refine y_viA (rest := []) hc hG (k4_mark ad c0 (xs (x3 + 1).toNatClampNeg) (xs (x3 + 2).toNatClampNeg) r c' e4) rfl rfl lL_61 ⟨rfl, rfl, by decide, by decide⟩ ⟨by decide, by decide⟩ rfl hl.1 (Nat.le_of_ble_eq_true rfl) rfl dL_law_612 (fun H locs hG => ?_)
  refine lv_aload_n hx hb dL_law_615 rfl (lv_at hl 2 rfl) ?_
  refine lv_aload_n hx hb dL_law_616 rfl (lv_at hl 0 rfl) ?_
  refine lv_iload_n hx hb dL_law_617 rfl (lv_at hl 3 rfl) ?_
  refine lv_iconst (v := 1) hx hb dL_law_618 (by decide) ?_
  refine lv_iadd hx hb dL_law_619 ?_
  refine va_sld hx hb hX hbl hbA hG.2.2 h1 dL_law_620 ?_
  refine lv_aload_n hx hb dL_law_621 rfl (lv_at hl 0 rfl) ?_
  refine lv_iload_n hx hb dL_law_622 rfl (lv_at hl 3 rfl) ?_
  refine lv_iconst (v := 2) hx hb dL_law_623 (by decide) ?_
  refine lv_iadd hx hb dL_law_624 ?_
  refine va_sld hx hb hX hbl hbA hG.2.2 h2 dL_law_625 ?_
  refine y_viB (rest := [.int r]) hc hG (k5_mark bd d0 (xs (x3 + 1).toNatClampNeg) (xs (x3 + 2).toNatClampNeg) r d' e5) rfl rfl lL_64 ⟨rfl, rfl, by decide, by decide⟩ ⟨by decide, by decide⟩ rfl hl.1 (Nat.le_of_ble_eq_true rfl) rfl dL_law_626 (fun H locs hG => ?_)
  refine lv_icmp_eq (tgt := 1416) hx hb dL_law_629 (by decide) (fun _ => ?_) (fun q => absurd rfl q)
  exact kk c' d' hr' ls H locs hl hG
set_option maxRecDepth 100000 in
set_option maxHeartbeats 4000000 in
theorem lc_12 {p : Program} {l : Launch} {e : Env} {s : State} {m : MethodId} {below : List Frame} {meth : Method} {c : Code} {Q : State → Prop} {D : va_G} {cI : ClassId} {tL b L : Nat} {xs : Nat → Int32} {Rel : CS → MS → Prop} (hst : Step_morning Rel) (hc : Cx p s m #[Value.ref b] c D cI tL (fun q => s.heap.size ≤ q) code 4 RL) (hX : va_X b L xs s s.heap) (hbl : b < s.heap.size) (hbA : ¬ s.heap.size ≤ b) (ad bd : Nat → Nat) (x3 : Int32) (h1 : vp_in (x3 + 1) L) (h2 : vp_in (x3 + 2) L) (h3 : vp_in (x3 + 3) L) (h4 : vp_in (x3 + 4) L) (h5 : vp_in (x3 + 5) L) (c0 : CS) (d0 : MS) (hr : Rel c0 d0)
    (kk : ∀ (c1 : CS) (d1 : MS), Rel c1 d1 → ∀ (ls : Array Slot) (H : Heap) (locs : List Loc), lv_has ls 4 [(0, .ref b), (1, .ref (ad 0)), (2, .ref (bd 0)), (3, .int x3)] → St D (fun q => s.heap.size ≤ q) s (w4 cI ad c1 ++ w5 cI bd d1) H locs → W p l e room_1 s m #[Value.ref b] below meth c H locs 47 9681 Q (F0 m 1416 ls []))
    (ls : Array Slot) (H : Heap) (locs : List Loc) (hl : lv_has ls 4 [(0, .ref b), (1, .ref (ad 0)), (2, .ref (bd 0)), (3, .int x3)]) (hG : St D (fun q => s.heap.size ≤ q) s (w4 cI ad c0 ++ w5 cI bd d0) H locs) : W p l e room_1 s m #[Value.ref b] below meth c H locs 47 9681 Q (F0 m 634 ls []) := by
  obtain ⟨r, c', d', e4, e5, hr'⟩ := hst c0 d0 hr
  obtain ⟨hx, hb, hml, hown, hts, hK, hA, hz⟩ := id hc
  refine lv_aload_n hx hb dL_law_634 rfl (lv_at hl 1 rfl) ?_
  refine y_viA (rest := []) hc hG (k4_morning ad c0  r c' e4) rfl rfl lL_65 ⟨rfl, rfl, by decide, by decide⟩ ⟨by decide, by decide⟩ rfl hl.1 (Nat.le_of_ble_eq_true rfl) rfl dL_law_635 (fun H locs hG => ?_)
  refine lv_aload_n hx hb dL_law_638 rfl (lv_at hl 2 rfl) ?_
  refine y_viB (rest := [.int r]) hc hG (k5_morning bd d0  r d' e5) rfl rfl lL_69 ⟨rfl, rfl, by decide, by decide⟩ ⟨by decide, by decide⟩ rfl hl.1 (Nat.le_of_ble_eq_true rfl) rfl dL_law_639 (fun H locs hG => ?_)
  refine lv_icmp_eq (tgt := 1416) hx hb dL_law_642 (by decide) (fun _ => ?_) (fun q => absurd rfl q)
  exact kk c' d' hr' ls H locs hl hG
set_option maxRecDepth 100000 in
set_option maxHeartbeats 4000000 in
theorem lc_13 {p : Program} {l : Launch} {e : Env} {s : State} {m : MethodId} {below : List Frame} {meth : Method} {c : Code} {Q : State → Prop} {D : va_G} {cI : ClassId} {tL b L : Nat} {xs : Nat → Int32} {Rel : CS → MS → Prop} (hst : Step_shift Rel) (hc : Cx p s m #[Value.ref b] c D cI tL (fun q => s.heap.size ≤ q) code 4 RL) (hX : va_X b L xs s s.heap) (hbl : b < s.heap.size) (hbA : ¬ s.heap.size ≤ b) (ad bd : Nat → Nat) (x3 : Int32) (h1 : vp_in (x3 + 1) L) (h2 : vp_in (x3 + 2) L) (h3 : vp_in (x3 + 3) L) (h4 : vp_in (x3 + 4) L) (h5 : vp_in (x3 + 5) L) (c0 : CS) (d0 : MS) (hr : Rel c0 d0)
    (kk : ∀ (c1 : CS) (d1 : MS), Rel c1 d1 → ∀ (ls : Array Slot) (H : Heap) (locs : List Loc), lv_has ls 4 [(0, .ref b), (1, .ref (ad 0)), (2, .ref (bd 0)), (3, .int x3)] → St D (fun q => s.heap.size ≤ q) s (w4 cI ad c1 ++ w5 cI bd d1) H locs → W p l e room_1 s m #[Value.ref b] below meth c H locs 47 9681 Q (F0 m 1416 ls []))
    (ls : Array Slot) (H : Heap) (locs : List Loc) (hl : lv_has ls 4 [(0, .ref b), (1, .ref (ad 0)), (2, .ref (bd 0)), (3, .int x3)]) (hG : St D (fun q => s.heap.size ≤ q) s (w4 cI ad c0 ++ w5 cI bd d0) H locs) : W p l e room_1 s m #[Value.ref b] below meth c H locs 47 9681 Q (F0 m 647 ls []) := by
  obtain ⟨r, c', d', e4, e5, hr'⟩ := hst c0 d0 hr (xs (x3 + 1).toNatClampNeg) (xs (x3 + 2).toNatClampNeg)
  obtain ⟨hx, hb, hml, hown, hts, hK, hA, hz⟩ := id hc
  refine lv_aload_n hx hb dL_law_647 rfl (lv_at hl 1 rfl) ?_
  refine lv_aload_n hx hb dL_law_648 rfl (lv_at hl 0 rfl) ?_
  refine lv_iload_n hx hb dL_law_649 rfl (lv_at hl 3 rfl) ?_
  refine lv_iconst (v := 1) hx hb dL_law_650 (by decide) ?_
  refine lv_iadd hx hb dL_law_651 ?_
  refine va_sld hx hb hX hbl hbA hG.2.2 h1 dL_law_652 ?_
  refine lv_aload_n hx hb dL_law_653 rfl (lv_at hl 0 rfl) ?_
  refine lv_iload_n hx hb dL_law_654 rfl (lv_at hl 3 rfl) ?_
  refine lv_iconst (v := 2) hx hb dL_law_655 (by decide) ?_
  refine lv_iadd hx hb dL_law_656 ?_
  refine va_sld hx hb hX hbl hbA hG.2.2 h2 dL_law_657 ?_
  refine y_viA (rest := []) hc hG (k4_shift ad c0 (xs (x3 + 1).toNatClampNeg) (xs (x3 + 2).toNatClampNeg) r c' e4) rfl rfl lL_70 ⟨rfl, rfl, by decide, by decide⟩ ⟨by decide, by decide⟩ rfl hl.1 (Nat.le_of_ble_eq_true rfl) rfl dL_law_658 (fun H locs hG => ?_)
  refine lv_aload_n hx hb dL_law_661 rfl (lv_at hl 2 rfl) ?_
  refine lv_aload_n hx hb dL_law_662 rfl (lv_at hl 0 rfl) ?_
  refine lv_iload_n hx hb dL_law_663 rfl (lv_at hl 3 rfl) ?_
  refine lv_iconst (v := 1) hx hb dL_law_664 (by decide) ?_
  refine lv_iadd hx hb dL_law_665 ?_
  refine va_sld hx hb hX hbl hbA hG.2.2 h1 dL_law_666 ?_
  refine lv_aload_n hx hb dL_law_667 rfl (lv_at hl 0 rfl) ?_
  refine lv_iload_n hx hb dL_law_668 rfl (lv_at hl 3 rfl) ?_
  refine lv_iconst (v := 2) hx hb dL_law_669 (by decide) ?_
  refine lv_iadd hx hb dL_law_670 ?_
  refine va_sld hx hb hX hbl hbA hG.2.2 h2 dL_law_671 ?_
  refine y_viB (rest := [.int r]) hc hG (k5_shift bd d0 (xs (x3 + 1).toNatClampNeg) (xs (x3 + 2).toNatClampNeg) r d' e5) rfl rfl lL_73 ⟨rfl, rfl, by decide, by decide⟩ ⟨by decide, by decide⟩ rfl hl.1 (Nat.le_of_ble_eq_true rfl) rfl dL_law_672 (fun H locs hG => ?_)
  refine lv_icmp_eq (tgt := 1416) hx hb dL_law_675 (by decide) (fun _ => ?_) (fun q => absurd rfl q)
  exact kk c' d' hr' ls H locs hl hG
set_option maxRecDepth 100000 in
set_option maxHeartbeats 4000000 in
theorem lc_14 {p : Program} {l : Launch} {e : Env} {s : State} {m : MethodId} {below : List Frame} {meth : Method} {c : Code} {Q : State → Prop} {D : va_G} {cI : ClassId} {tL b L : Nat} {xs : Nat → Int32} {Rel : CS → MS → Prop} (hst : Step_turn Rel) (hc : Cx p s m #[Value.ref b] c D cI tL (fun q => s.heap.size ≤ q) code 4 RL) (hX : va_X b L xs s s.heap) (hbl : b < s.heap.size) (hbA : ¬ s.heap.size ≤ b) (ad bd : Nat → Nat) (x3 : Int32) (h1 : vp_in (x3 + 1) L) (h2 : vp_in (x3 + 2) L) (h3 : vp_in (x3 + 3) L) (h4 : vp_in (x3 + 4) L) (h5 : vp_in (x3 + 5) L) (c0 : CS) (d0 : MS) (hr : Rel c0 d0)
    (kk : ∀ (c1 : CS) (d1 : MS), Rel c1 d1 → ∀ (ls : Array Slot) (H : Heap) (locs : List Loc), lv_has ls 4 [(0, .ref b), (1, .ref (ad 0)), (2, .ref (bd 0)), (3, .int x3)] → St D (fun q => s.heap.size ≤ q) s (w4 cI ad c1 ++ w5 cI bd d1) H locs → W p l e room_1 s m #[Value.ref b] below meth c H locs 47 9681 Q (F0 m 1416 ls []))
    (ls : Array Slot) (H : Heap) (locs : List Loc) (hl : lv_has ls 4 [(0, .ref b), (1, .ref (ad 0)), (2, .ref (bd 0)), (3, .int x3)]) (hG : St D (fun q => s.heap.size ≤ q) s (w4 cI ad c0 ++ w5 cI bd d0) H locs) : W p l e room_1 s m #[Value.ref b] below meth c H locs 47 9681 Q (F0 m 680 ls []) := by
  obtain ⟨r, c', d', e4, e5, hr'⟩ := hst c0 d0 hr (xs (x3 + 1).toNatClampNeg)
  obtain ⟨hx, hb, hml, hown, hts, hK, hA, hz⟩ := id hc
  refine lv_aload_n hx hb dL_law_680 rfl (lv_at hl 1 rfl) ?_
  refine lv_aload_n hx hb dL_law_681 rfl (lv_at hl 0 rfl) ?_
  refine lv_iload_n hx hb dL_law_682 rfl (lv_at hl 3 rfl) ?_
  refine lv_iconst (v := 1) hx hb dL_law_683 (by decide) ?_
  refine lv_iadd hx hb dL_law_684 ?_
  refine va_sld hx hb hX hbl hbA hG.2.2 h1 dL_law_685 ?_
  refine y_viA (rest := []) hc hG (k4_turn ad c0 (xs (x3 + 1).toNatClampNeg) r c' e4) rfl rfl lL_74 ⟨rfl, rfl, by decide, by decide⟩ ⟨by decide, by decide⟩ rfl hl.1 (Nat.le_of_ble_eq_true rfl) rfl dL_law_686 (fun H locs hG => ?_)
  refine lv_aload_n hx hb dL_law_689 rfl (lv_at hl 2 rfl) ?_
  refine lv_aload_n hx hb dL_law_690 rfl (lv_at hl 0 rfl) ?_
  refine lv_iload_n hx hb dL_law_691 rfl (lv_at hl 3 rfl) ?_
  refine lv_iconst (v := 1) hx hb dL_law_692 (by decide) ?_
  refine lv_iadd hx hb dL_law_693 ?_
  refine va_sld hx hb hX hbl hbA hG.2.2 h1 dL_law_694 ?_
  refine y_viB (rest := [.int r]) hc hG (k5_turn bd d0 (xs (x3 + 1).toNatClampNeg) r d' e5) rfl rfl lL_77 ⟨rfl, rfl, by decide, by decide⟩ ⟨by decide, by decide⟩ rfl hl.1 (Nat.le_of_ble_eq_true rfl) rfl dL_law_695 (fun H locs hG => ?_)
  refine lv_icmp_eq (tgt := 1416) hx hb dL_law_698 (by decide) (fun _ => ?_) (fun q => absurd rfl q)
  exact kk c' d' hr' ls H locs hl hG
set_option maxRecDepth 100000 in
set_option maxHeartbeats 4000000 in
theorem lc_15 {p : Program} {l : Launch} {e : Env} {s : State} {m : MethodId} {below : List Frame} {meth : Method} {c : Code} {Q : State → Prop} {D : va_G} {cI : ClassId} {tL b L : Nat} {xs : Nat → Int32} {Rel : CS → MS → Prop} (hst : Step_lift Rel) (hc : Cx p s m #[Value.ref b] c D cI tL (fun q => s.heap.size ≤ q) code 4 RL) (hX : va_X b L xs s s.heap) (hbl : b < s.heap.size) (hbA : ¬ s.heap.size ≤ b) (ad bd : Nat → Nat) (x3 : Int32) (h1 : vp_in (x3 + 1) L) (h2 : vp_in (x3 + 2) L) (h3 : vp_in (x3 + 3) L) (h4 : vp_in (x3 + 4) L) (h5 : vp_in (x3 + 5) L) (c0 : CS) (d0 : MS) (hr : Rel c0 d0)
    (kk : ∀ (c1 : CS) (d1 : MS), Rel c1 d1 → ∀ (ls : Array Slot) (H : Heap) (locs : List Loc), lv_has ls 4 [(0, .ref b), (1, .ref (ad 0)), (2, .ref (bd 0)), (3, .int x3)] → St D (fun q => s.heap.size ≤ q) s (w4 cI ad c1 ++ w5 cI bd d1) H locs → W p l e room_1 s m #[Value.ref b] below meth c H locs 47 9681 Q (F0 m 1416 ls []))
    (ls : Array Slot) (H : Heap) (locs : List Loc) (hl : lv_has ls 4 [(0, .ref b), (1, .ref (ad 0)), (2, .ref (bd 0)), (3, .int x3)]) (hG : St D (fun q => s.heap.size ≤ q) s (w4 cI ad c0 ++ w5 cI bd d0) H locs) : W p l e room_1 s m #[Value.ref b] below meth c H locs 47 9681 Q (F0 m 703 ls []) := by
  obtain ⟨r, c', d', e4, e5, hr'⟩ := hst c0 d0 hr (xs (x3 + 1).toNatClampNeg)
  obtain ⟨hx, hb, hml, hown, hts, hK, hA, hz⟩ := id hc
  refine lv_aload_n hx hb dL_law_703 rfl (lv_at hl 1 rfl) ?_
  refine lv_aload_n hx hb dL_law_704 rfl (lv_at hl 0 rfl) ?_
  refine lv_iload_n hx hb dL_law_705 rfl (lv_at hl 3 rfl) ?_
  refine lv_iconst (v := 1) hx hb dL_law_706 (by decide) ?_
  refine lv_iadd hx hb dL_law_707 ?_
  refine va_sld hx hb hX hbl hbA hG.2.2 h1 dL_law_708 ?_
  refine y_viA (rest := []) hc hG (k4_lift ad c0 (xs (x3 + 1).toNatClampNeg) r c' e4) rfl rfl lL_78 ⟨rfl, rfl, by decide, by decide⟩ ⟨by decide, by decide⟩ rfl hl.1 (Nat.le_of_ble_eq_true rfl) rfl dL_law_709 (fun H locs hG => ?_)
  refine lv_aload_n hx hb dL_law_712 rfl (lv_at hl 2 rfl) ?_
  refine lv_aload_n hx hb dL_law_713 rfl (lv_at hl 0 rfl) ?_
  refine lv_iload_n hx hb dL_law_714 rfl (lv_at hl 3 rfl) ?_
  refine lv_iconst (v := 1) hx hb dL_law_715 (by decide) ?_
  refine lv_iadd hx hb dL_law_716 ?_
  refine va_sld hx hb hX hbl hbA hG.2.2 h1 dL_law_717 ?_
  refine y_viB (rest := [.int r]) hc hG (k5_lift bd d0 (xs (x3 + 1).toNatClampNeg) r d' e5) rfl rfl lL_81 ⟨rfl, rfl, by decide, by decide⟩ ⟨by decide, by decide⟩ rfl hl.1 (Nat.le_of_ble_eq_true rfl) rfl dL_law_718 (fun H locs hG => ?_)
  refine lv_icmp_eq (tgt := 1416) hx hb dL_law_721 (by decide) (fun _ => ?_) (fun q => absurd rfl q)
  exact kk c' d' hr' ls H locs hl hG
set_option maxRecDepth 100000 in
set_option maxHeartbeats 4000000 in
theorem lc_16 {p : Program} {l : Launch} {e : Env} {s : State} {m : MethodId} {below : List Frame} {meth : Method} {c : Code} {Q : State → Prop} {D : va_G} {cI : ClassId} {tL b L : Nat} {xs : Nat → Int32} {Rel : CS → MS → Prop} (hst : Step_lick Rel) (hc : Cx p s m #[Value.ref b] c D cI tL (fun q => s.heap.size ≤ q) code 4 RL) (hX : va_X b L xs s s.heap) (hbl : b < s.heap.size) (hbA : ¬ s.heap.size ≤ b) (ad bd : Nat → Nat) (x3 : Int32) (h1 : vp_in (x3 + 1) L) (h2 : vp_in (x3 + 2) L) (h3 : vp_in (x3 + 3) L) (h4 : vp_in (x3 + 4) L) (h5 : vp_in (x3 + 5) L) (c0 : CS) (d0 : MS) (hr : Rel c0 d0)
    (kk : ∀ (c1 : CS) (d1 : MS), Rel c1 d1 → ∀ (ls : Array Slot) (H : Heap) (locs : List Loc), lv_has ls 4 [(0, .ref b), (1, .ref (ad 0)), (2, .ref (bd 0)), (3, .int x3)] → St D (fun q => s.heap.size ≤ q) s (w4 cI ad c1 ++ w5 cI bd d1) H locs → W p l e room_1 s m #[Value.ref b] below meth c H locs 47 9681 Q (F0 m 1416 ls []))
    (ls : Array Slot) (H : Heap) (locs : List Loc) (hl : lv_has ls 4 [(0, .ref b), (1, .ref (ad 0)), (2, .ref (bd 0)), (3, .int x3)]) (hG : St D (fun q => s.heap.size ≤ q) s (w4 cI ad c0 ++ w5 cI bd d0) H locs) : W p l e room_1 s m #[Value.ref b] below meth c H locs 47 9681 Q (F0 m 726 ls []) := by
  obtain ⟨r, c', d', e4, e5, hr'⟩ := hst c0 d0 hr (xs (x3 + 1).toNatClampNeg)
  obtain ⟨hx, hb, hml, hown, hts, hK, hA, hz⟩ := id hc
  refine lv_aload_n hx hb dL_law_726 rfl (lv_at hl 1 rfl) ?_
  refine lv_aload_n hx hb dL_law_727 rfl (lv_at hl 0 rfl) ?_
  refine lv_iload_n hx hb dL_law_728 rfl (lv_at hl 3 rfl) ?_
  refine lv_iconst (v := 1) hx hb dL_law_729 (by decide) ?_
  refine lv_iadd hx hb dL_law_730 ?_
  refine va_sld hx hb hX hbl hbA hG.2.2 h1 dL_law_731 ?_
  refine y_viA (rest := []) hc hG (k4_lick ad c0 (xs (x3 + 1).toNatClampNeg) r c' e4) rfl rfl lL_82 ⟨rfl, rfl, by decide, by decide⟩ ⟨by decide, by decide⟩ rfl hl.1 (Nat.le_of_ble_eq_true rfl) rfl dL_law_732 (fun H locs hG => ?_)
  refine lv_aload_n hx hb dL_law_735 rfl (lv_at hl 2 rfl) ?_
  refine lv_aload_n hx hb dL_law_736 rfl (lv_at hl 0 rfl) ?_
  refine lv_iload_n hx hb dL_law_737 rfl (lv_at hl 3 rfl) ?_
  refine lv_iconst (v := 1) hx hb dL_law_738 (by decide) ?_
  refine lv_iadd hx hb dL_law_739 ?_
  refine va_sld hx hb hX hbl hbA hG.2.2 h1 dL_law_740 ?_
  refine y_viB (rest := [.int r]) hc hG (k5_lick bd d0 (xs (x3 + 1).toNatClampNeg) r d' e5) rfl rfl lL_85 ⟨rfl, rfl, by decide, by decide⟩ ⟨by decide, by decide⟩ rfl hl.1 (Nat.le_of_ble_eq_true rfl) rfl dL_law_741 (fun H locs hG => ?_)
  refine lv_icmp_eq (tgt := 1416) hx hb dL_law_744 (by decide) (fun _ => ?_) (fun q => absurd rfl q)
  exact kk c' d' hr' ls H locs hl hG
set_option maxRecDepth 100000 in
set_option maxHeartbeats 4000000 in
theorem lc_17 {p : Program} {l : Launch} {e : Env} {s : State} {m : MethodId} {below : List Frame} {meth : Method} {c : Code} {Q : State → Prop} {D : va_G} {cI : ClassId} {tL b L : Nat} {xs : Nat → Int32} {Rel : CS → MS → Prop} (hst : Step_undo Rel) (hc : Cx p s m #[Value.ref b] c D cI tL (fun q => s.heap.size ≤ q) code 4 RL) (hX : va_X b L xs s s.heap) (hbl : b < s.heap.size) (hbA : ¬ s.heap.size ≤ b) (ad bd : Nat → Nat) (x3 : Int32) (h1 : vp_in (x3 + 1) L) (h2 : vp_in (x3 + 2) L) (h3 : vp_in (x3 + 3) L) (h4 : vp_in (x3 + 4) L) (h5 : vp_in (x3 + 5) L) (c0 : CS) (d0 : MS) (hr : Rel c0 d0)
    (kk : ∀ (c1 : CS) (d1 : MS), Rel c1 d1 → ∀ (ls : Array Slot) (H : Heap) (locs : List Loc), lv_has ls 4 [(0, .ref b), (1, .ref (ad 0)), (2, .ref (bd 0)), (3, .int x3)] → St D (fun q => s.heap.size ≤ q) s (w4 cI ad c1 ++ w5 cI bd d1) H locs → W p l e room_1 s m #[Value.ref b] below meth c H locs 47 9681 Q (F0 m 1416 ls []))
    (ls : Array Slot) (H : Heap) (locs : List Loc) (hl : lv_has ls 4 [(0, .ref b), (1, .ref (ad 0)), (2, .ref (bd 0)), (3, .int x3)]) (hG : St D (fun q => s.heap.size ≤ q) s (w4 cI ad c0 ++ w5 cI bd d0) H locs) : W p l e room_1 s m #[Value.ref b] below meth c H locs 47 9681 Q (F0 m 749 ls []) := by
  obtain ⟨r, c', d', e4, e5, hr'⟩ := hst c0 d0 hr (xs (x3 + 1).toNatClampNeg)
  obtain ⟨hx, hb, hml, hown, hts, hK, hA, hz⟩ := id hc
  refine lv_aload_n hx hb dL_law_749 rfl (lv_at hl 1 rfl) ?_
  refine lv_aload_n hx hb dL_law_750 rfl (lv_at hl 0 rfl) ?_
  refine lv_iload_n hx hb dL_law_751 rfl (lv_at hl 3 rfl) ?_
  refine lv_iconst (v := 1) hx hb dL_law_752 (by decide) ?_
  refine lv_iadd hx hb dL_law_753 ?_
  refine va_sld hx hb hX hbl hbA hG.2.2 h1 dL_law_754 ?_
  refine y_viA (rest := []) hc hG (k4_undo ad c0 (xs (x3 + 1).toNatClampNeg) r c' e4) rfl rfl lL_86 ⟨rfl, rfl, by decide, by decide⟩ ⟨by decide, by decide⟩ rfl hl.1 (Nat.le_of_ble_eq_true rfl) rfl dL_law_755 (fun H locs hG => ?_)
  refine lv_aload_n hx hb dL_law_758 rfl (lv_at hl 2 rfl) ?_
  refine lv_aload_n hx hb dL_law_759 rfl (lv_at hl 0 rfl) ?_
  refine lv_iload_n hx hb dL_law_760 rfl (lv_at hl 3 rfl) ?_
  refine lv_iconst (v := 1) hx hb dL_law_761 (by decide) ?_
  refine lv_iadd hx hb dL_law_762 ?_
  refine va_sld hx hb hX hbl hbA hG.2.2 h1 dL_law_763 ?_
  refine y_viB (rest := [.int r]) hc hG (k5_undo bd d0 (xs (x3 + 1).toNatClampNeg) r d' e5) rfl rfl lL_89 ⟨rfl, rfl, by decide, by decide⟩ ⟨by decide, by decide⟩ rfl hl.1 (Nat.le_of_ble_eq_true rfl) rfl dL_law_764 (fun H locs hG => ?_)
  refine lv_icmp_eq (tgt := 1416) hx hb dL_law_767 (by decide) (fun _ => ?_) (fun q => absurd rfl q)
  exact kk c' d' hr' ls H locs hl hG
set_option maxRecDepth 100000 in
set_option maxHeartbeats 4000000 in
theorem lc_18 {p : Program} {l : Launch} {e : Env} {s : State} {m : MethodId} {below : List Frame} {meth : Method} {c : Code} {Q : State → Prop} {D : va_G} {cI : ClassId} {tL b L : Nat} {xs : Nat → Int32} {Rel : CS → MS → Prop} (hst : Step_keep Rel) (hc : Cx p s m #[Value.ref b] c D cI tL (fun q => s.heap.size ≤ q) code 4 RL) (hX : va_X b L xs s s.heap) (hbl : b < s.heap.size) (hbA : ¬ s.heap.size ≤ b) (ad bd : Nat → Nat) (x3 : Int32) (h1 : vp_in (x3 + 1) L) (h2 : vp_in (x3 + 2) L) (h3 : vp_in (x3 + 3) L) (h4 : vp_in (x3 + 4) L) (h5 : vp_in (x3 + 5) L) (c0 : CS) (d0 : MS) (hr : Rel c0 d0)
    (kk : ∀ (c1 : CS) (d1 : MS), Rel c1 d1 → ∀ (ls : Array Slot) (H : Heap) (locs : List Loc), lv_has ls 4 [(0, .ref b), (1, .ref (ad 0)), (2, .ref (bd 0)), (3, .int x3)] → St D (fun q => s.heap.size ≤ q) s (w4 cI ad c1 ++ w5 cI bd d1) H locs → W p l e room_1 s m #[Value.ref b] below meth c H locs 47 9681 Q (F0 m 1416 ls []))
    (ls : Array Slot) (H : Heap) (locs : List Loc) (hl : lv_has ls 4 [(0, .ref b), (1, .ref (ad 0)), (2, .ref (bd 0)), (3, .int x3)]) (hG : St D (fun q => s.heap.size ≤ q) s (w4 cI ad c0 ++ w5 cI bd d0) H locs) : W p l e room_1 s m #[Value.ref b] below meth c H locs 47 9681 Q (F0 m 772 ls []) := by
  obtain ⟨r, c', d', e4, e5, hr'⟩ := hst c0 d0 hr (xs (x3 + 1).toNatClampNeg)
  obtain ⟨hx, hb, hml, hown, hts, hK, hA, hz⟩ := id hc
  refine lv_aload_n hx hb dL_law_772 rfl (lv_at hl 1 rfl) ?_
  refine lv_aload_n hx hb dL_law_773 rfl (lv_at hl 0 rfl) ?_
  refine lv_iload_n hx hb dL_law_774 rfl (lv_at hl 3 rfl) ?_
  refine lv_iconst (v := 1) hx hb dL_law_775 (by decide) ?_
  refine lv_iadd hx hb dL_law_776 ?_
  refine va_sld hx hb hX hbl hbA hG.2.2 h1 dL_law_777 ?_
  refine y_viA (rest := []) hc hG (k4_keep ad c0 (xs (x3 + 1).toNatClampNeg) r c' e4) rfl rfl lL_90 ⟨rfl, rfl, by decide, by decide⟩ ⟨by decide, by decide⟩ rfl hl.1 (Nat.le_of_ble_eq_true rfl) rfl dL_law_778 (fun H locs hG => ?_)
  refine lv_aload_n hx hb dL_law_781 rfl (lv_at hl 2 rfl) ?_
  refine lv_aload_n hx hb dL_law_782 rfl (lv_at hl 0 rfl) ?_
  refine lv_iload_n hx hb dL_law_783 rfl (lv_at hl 3 rfl) ?_
  refine lv_iconst (v := 1) hx hb dL_law_784 (by decide) ?_
  refine lv_iadd hx hb dL_law_785 ?_
  refine va_sld hx hb hX hbl hbA hG.2.2 h1 dL_law_786 ?_
  refine y_viB (rest := [.int r]) hc hG (k5_keep bd d0 (xs (x3 + 1).toNatClampNeg) r d' e5) rfl rfl lL_93 ⟨rfl, rfl, by decide, by decide⟩ ⟨by decide, by decide⟩ rfl hl.1 (Nat.le_of_ble_eq_true rfl) rfl dL_law_787 (fun H locs hG => ?_)
  refine lv_icmp_eq (tgt := 1416) hx hb dL_law_790 (by decide) (fun _ => ?_) (fun q => absurd rfl q)
  exact kk c' d' hr' ls H locs hl hG
set_option maxRecDepth 100000 in
set_option maxHeartbeats 4000000 in
theorem lc_19 {p : Program} {l : Launch} {e : Env} {s : State} {m : MethodId} {below : List Frame} {meth : Method} {c : Code} {Q : State → Prop} {D : va_G} {cI : ClassId} {tL b L : Nat} {xs : Nat → Int32} {Rel : CS → MS → Prop} (hst : Step_on Rel) (hc : Cx p s m #[Value.ref b] c D cI tL (fun q => s.heap.size ≤ q) code 4 RL) (hX : va_X b L xs s s.heap) (hbl : b < s.heap.size) (hbA : ¬ s.heap.size ≤ b) (ad bd : Nat → Nat) (x3 : Int32) (h1 : vp_in (x3 + 1) L) (h2 : vp_in (x3 + 2) L) (h3 : vp_in (x3 + 3) L) (h4 : vp_in (x3 + 4) L) (h5 : vp_in (x3 + 5) L) (c0 : CS) (d0 : MS) (hr : Rel c0 d0)
    (kk : ∀ (c1 : CS) (d1 : MS), Rel c1 d1 → ∀ (ls : Array Slot) (H : Heap) (locs : List Loc), lv_has ls 4 [(0, .ref b), (1, .ref (ad 0)), (2, .ref (bd 0)), (3, .int x3)] → St D (fun q => s.heap.size ≤ q) s (w4 cI ad c1 ++ w5 cI bd d1) H locs → W p l e room_1 s m #[Value.ref b] below meth c H locs 47 9681 Q (F0 m 1416 ls []))
    (ls : Array Slot) (H : Heap) (locs : List Loc) (hl : lv_has ls 4 [(0, .ref b), (1, .ref (ad 0)), (2, .ref (bd 0)), (3, .int x3)]) (hG : St D (fun q => s.heap.size ≤ q) s (w4 cI ad c0 ++ w5 cI bd d0) H locs) : W p l e room_1 s m #[Value.ref b] below meth c H locs 47 9681 Q (F0 m 795 ls []) := by
  obtain ⟨r, c', d', e4, e5, hr'⟩ := hst c0 d0 hr (xs (x3 + 1).toNatClampNeg)
  obtain ⟨hx, hb, hml, hown, hts, hK, hA, hz⟩ := id hc
  refine lv_aload_n hx hb dL_law_795 rfl (lv_at hl 1 rfl) ?_
  refine lv_aload_n hx hb dL_law_796 rfl (lv_at hl 0 rfl) ?_
  refine lv_iload_n hx hb dL_law_797 rfl (lv_at hl 3 rfl) ?_
  refine lv_iconst (v := 1) hx hb dL_law_798 (by decide) ?_
  refine lv_iadd hx hb dL_law_799 ?_
  refine va_sld hx hb hX hbl hbA hG.2.2 h1 dL_law_800 ?_
  refine y_viA (rest := []) hc hG (k4_on ad c0 (xs (x3 + 1).toNatClampNeg) r c' e4) rfl rfl lL_94 ⟨rfl, rfl, by decide, by decide⟩ ⟨by decide, by decide⟩ rfl hl.1 (Nat.le_of_ble_eq_true rfl) rfl dL_law_801 (fun H locs hG => ?_)
  refine lv_aload_n hx hb dL_law_804 rfl (lv_at hl 2 rfl) ?_
  refine lv_aload_n hx hb dL_law_805 rfl (lv_at hl 0 rfl) ?_
  refine lv_iload_n hx hb dL_law_806 rfl (lv_at hl 3 rfl) ?_
  refine lv_iconst (v := 1) hx hb dL_law_807 (by decide) ?_
  refine lv_iadd hx hb dL_law_808 ?_
  refine va_sld hx hb hX hbl hbA hG.2.2 h1 dL_law_809 ?_
  refine y_viB (rest := [.int r]) hc hG (k5_on bd d0 (xs (x3 + 1).toNatClampNeg) r d' e5) rfl rfl lL_97 ⟨rfl, rfl, by decide, by decide⟩ ⟨by decide, by decide⟩ rfl hl.1 (Nat.le_of_ble_eq_true rfl) rfl dL_law_810 (fun H locs hG => ?_)
  refine lv_icmp_eq (tgt := 1416) hx hb dL_law_813 (by decide) (fun _ => ?_) (fun q => absurd rfl q)
  exact kk c' d' hr' ls H locs hl hG
set_option maxRecDepth 100000 in
set_option maxHeartbeats 4000000 in
theorem lc_20 {p : Program} {l : Launch} {e : Env} {s : State} {m : MethodId} {below : List Frame} {meth : Method} {c : Code} {Q : State → Prop} {D : va_G} {cI : ClassId} {tL b L : Nat} {xs : Nat → Int32} {Rel : CS → MS → Prop} (hst : Step_covers Rel) (hc : Cx p s m #[Value.ref b] c D cI tL (fun q => s.heap.size ≤ q) code 4 RL) (hX : va_X b L xs s s.heap) (hbl : b < s.heap.size) (hbA : ¬ s.heap.size ≤ b) (ad bd : Nat → Nat) (x3 : Int32) (h1 : vp_in (x3 + 1) L) (h2 : vp_in (x3 + 2) L) (h3 : vp_in (x3 + 3) L) (h4 : vp_in (x3 + 4) L) (h5 : vp_in (x3 + 5) L) (c0 : CS) (d0 : MS) (hr : Rel c0 d0)
    (kk : ∀ (c1 : CS) (d1 : MS), Rel c1 d1 → ∀ (ls : Array Slot) (H : Heap) (locs : List Loc), lv_has ls 4 [(0, .ref b), (1, .ref (ad 0)), (2, .ref (bd 0)), (3, .int x3)] → St D (fun q => s.heap.size ≤ q) s (w4 cI ad c1 ++ w5 cI bd d1) H locs → W p l e room_1 s m #[Value.ref b] below meth c H locs 47 9681 Q (F0 m 1416 ls []))
    (ls : Array Slot) (H : Heap) (locs : List Loc) (hl : lv_has ls 4 [(0, .ref b), (1, .ref (ad 0)), (2, .ref (bd 0)), (3, .int x3)]) (hG : St D (fun q => s.heap.size ≤ q) s (w4 cI ad c0 ++ w5 cI bd d0) H locs) : W p l e room_1 s m #[Value.ref b] below meth c H locs 47 9681 Q (F0 m 818 ls []) := by
  obtain ⟨r, c', d', e4, e5, hr'⟩ := hst c0 d0 hr (xs (x3 + 1).toNatClampNeg) (xs (x3 + 2).toNatClampNeg) (xs (x3 + 3).toNatClampNeg)
  obtain ⟨hx, hb, hml, hown, hts, hK, hA, hz⟩ := id hc
  refine lv_aload_n hx hb dL_law_818 rfl (lv_at hl 1 rfl) ?_
  refine lv_aload_n hx hb dL_law_819 rfl (lv_at hl 0 rfl) ?_
  refine lv_iload_n hx hb dL_law_820 rfl (lv_at hl 3 rfl) ?_
  refine lv_iconst (v := 1) hx hb dL_law_821 (by decide) ?_
  refine lv_iadd hx hb dL_law_822 ?_
  refine va_sld hx hb hX hbl hbA hG.2.2 h1 dL_law_823 ?_
  refine lv_aload_n hx hb dL_law_824 rfl (lv_at hl 0 rfl) ?_
  refine lv_iload_n hx hb dL_law_825 rfl (lv_at hl 3 rfl) ?_
  refine lv_iconst (v := 2) hx hb dL_law_826 (by decide) ?_
  refine lv_iadd hx hb dL_law_827 ?_
  refine va_sld hx hb hX hbl hbA hG.2.2 h2 dL_law_828 ?_
  refine lv_aload_n hx hb dL_law_829 rfl (lv_at hl 0 rfl) ?_
  refine lv_iload_n hx hb dL_law_830 rfl (lv_at hl 3 rfl) ?_
  refine lv_iconst (v := 3) hx hb dL_law_831 (by decide) ?_
  refine lv_iadd hx hb dL_law_832 ?_
  refine va_sld hx hb hX hbl hbA hG.2.2 h3 dL_law_833 ?_
  refine y_viA (rest := []) hc hG (k4_covers ad c0 (xs (x3 + 1).toNatClampNeg) (xs (x3 + 2).toNatClampNeg) (xs (x3 + 3).toNatClampNeg) r c' e4) rfl rfl lL_98 ⟨rfl, rfl, by decide, by decide⟩ ⟨by decide, by decide⟩ rfl hl.1 (Nat.le_of_ble_eq_true rfl) rfl dL_law_834 (fun H locs hG => ?_)
  refine lv_aload_n hx hb dL_law_837 rfl (lv_at hl 2 rfl) ?_
  refine lv_aload_n hx hb dL_law_838 rfl (lv_at hl 0 rfl) ?_
  refine lv_iload_n hx hb dL_law_839 rfl (lv_at hl 3 rfl) ?_
  refine lv_iconst (v := 1) hx hb dL_law_840 (by decide) ?_
  refine lv_iadd hx hb dL_law_841 ?_
  refine va_sld hx hb hX hbl hbA hG.2.2 h1 dL_law_842 ?_
  refine lv_aload_n hx hb dL_law_843 rfl (lv_at hl 0 rfl) ?_
  refine lv_iload_n hx hb dL_law_844 rfl (lv_at hl 3 rfl) ?_
  refine lv_iconst (v := 2) hx hb dL_law_845 (by decide) ?_
  refine lv_iadd hx hb dL_law_846 ?_
  refine va_sld hx hb hX hbl hbA hG.2.2 h2 dL_law_847 ?_
  refine lv_aload_n hx hb dL_law_848 rfl (lv_at hl 0 rfl) ?_
  refine lv_iload_n hx hb dL_law_849 rfl (lv_at hl 3 rfl) ?_
  refine lv_iconst (v := 3) hx hb dL_law_850 (by decide) ?_
  refine lv_iadd hx hb dL_law_851 ?_
  refine va_sld hx hb hX hbl hbA hG.2.2 h3 dL_law_852 ?_
  refine y_viB (rest := [.int r]) hc hG (k5_covers bd d0 (xs (x3 + 1).toNatClampNeg) (xs (x3 + 2).toNatClampNeg) (xs (x3 + 3).toNatClampNeg) r d' e5) rfl rfl lL_101 ⟨rfl, rfl, by decide, by decide⟩ ⟨by decide, by decide⟩ rfl hl.1 (Nat.le_of_ble_eq_true rfl) rfl dL_law_853 (fun H locs hG => ?_)
  refine lv_icmp_eq (tgt := 1416) hx hb dL_law_856 (by decide) (fun _ => ?_) (fun q => absurd rfl q)
  exact kk c' d' hr' ls H locs hl hG
set_option maxRecDepth 100000 in
set_option maxHeartbeats 4000000 in
theorem lc_21 {p : Program} {l : Launch} {e : Env} {s : State} {m : MethodId} {below : List Frame} {meth : Method} {c : Code} {Q : State → Prop} {D : va_G} {cI : ClassId} {tL b L : Nat} {xs : Nat → Int32} {Rel : CS → MS → Prop} (hst : Step_covered Rel) (hc : Cx p s m #[Value.ref b] c D cI tL (fun q => s.heap.size ≤ q) code 4 RL) (hX : va_X b L xs s s.heap) (hbl : b < s.heap.size) (hbA : ¬ s.heap.size ≤ b) (ad bd : Nat → Nat) (x3 : Int32) (h1 : vp_in (x3 + 1) L) (h2 : vp_in (x3 + 2) L) (h3 : vp_in (x3 + 3) L) (h4 : vp_in (x3 + 4) L) (h5 : vp_in (x3 + 5) L) (c0 : CS) (d0 : MS) (hr : Rel c0 d0)
    (kk : ∀ (c1 : CS) (d1 : MS), Rel c1 d1 → ∀ (ls : Array Slot) (H : Heap) (locs : List Loc), lv_has ls 4 [(0, .ref b), (1, .ref (ad 0)), (2, .ref (bd 0)), (3, .int x3)] → St D (fun q => s.heap.size ≤ q) s (w4 cI ad c1 ++ w5 cI bd d1) H locs → W p l e room_1 s m #[Value.ref b] below meth c H locs 47 9681 Q (F0 m 1416 ls []))
    (ls : Array Slot) (H : Heap) (locs : List Loc) (hl : lv_has ls 4 [(0, .ref b), (1, .ref (ad 0)), (2, .ref (bd 0)), (3, .int x3)]) (hG : St D (fun q => s.heap.size ≤ q) s (w4 cI ad c0 ++ w5 cI bd d0) H locs) : W p l e room_1 s m #[Value.ref b] below meth c H locs 47 9681 Q (F0 m 861 ls []) := by
  obtain ⟨r, c', d', e4, e5, hr'⟩ := hst c0 d0 hr
  obtain ⟨hx, hb, hml, hown, hts, hK, hA, hz⟩ := id hc
  refine lv_aload_n hx hb dL_law_861 rfl (lv_at hl 1 rfl) ?_
  refine y_viA (rest := []) hc hG (k4_covered ad c0  r c' e4) rfl rfl lL_102 ⟨rfl, rfl, by decide, by decide⟩ ⟨by decide, by decide⟩ rfl hl.1 (Nat.le_of_ble_eq_true rfl) rfl dL_law_862 (fun H locs hG => ?_)
  refine lv_aload_n hx hb dL_law_865 rfl (lv_at hl 2 rfl) ?_
  refine y_viB (rest := [.int r]) hc hG (k5_covered bd d0  r d' e5) rfl rfl lL_105 ⟨rfl, rfl, by decide, by decide⟩ ⟨by decide, by decide⟩ rfl hl.1 (Nat.le_of_ble_eq_true rfl) rfl dL_law_866 (fun H locs hG => ?_)
  refine lv_icmp_eq (tgt := 1416) hx hb dL_law_869 (by decide) (fun _ => ?_) (fun q => absurd rfl q)
  exact kk c' d' hr' ls H locs hl hG
set_option maxRecDepth 100000 in
set_option maxHeartbeats 4000000 in
theorem lc_22 {p : Program} {l : Launch} {e : Env} {s : State} {m : MethodId} {below : List Frame} {meth : Method} {c : Code} {Q : State → Prop} {D : va_G} {cI : ClassId} {tL b L : Nat} {xs : Nat → Int32} {Rel : CS → MS → Prop} (hst : Step_weighs Rel) (hc : Cx p s m #[Value.ref b] c D cI tL (fun q => s.heap.size ≤ q) code 4 RL) (hX : va_X b L xs s s.heap) (hbl : b < s.heap.size) (hbA : ¬ s.heap.size ≤ b) (ad bd : Nat → Nat) (x3 : Int32) (h1 : vp_in (x3 + 1) L) (h2 : vp_in (x3 + 2) L) (h3 : vp_in (x3 + 3) L) (h4 : vp_in (x3 + 4) L) (h5 : vp_in (x3 + 5) L) (c0 : CS) (d0 : MS) (hr : Rel c0 d0)
    (kk : ∀ (c1 : CS) (d1 : MS), Rel c1 d1 → ∀ (ls : Array Slot) (H : Heap) (locs : List Loc), lv_has ls 4 [(0, .ref b), (1, .ref (ad 0)), (2, .ref (bd 0)), (3, .int x3)] → St D (fun q => s.heap.size ≤ q) s (w4 cI ad c1 ++ w5 cI bd d1) H locs → W p l e room_1 s m #[Value.ref b] below meth c H locs 47 9681 Q (F0 m 1416 ls []))
    (ls : Array Slot) (H : Heap) (locs : List Loc) (hl : lv_has ls 4 [(0, .ref b), (1, .ref (ad 0)), (2, .ref (bd 0)), (3, .int x3)]) (hG : St D (fun q => s.heap.size ≤ q) s (w4 cI ad c0 ++ w5 cI bd d0) H locs) : W p l e room_1 s m #[Value.ref b] below meth c H locs 47 9681 Q (F0 m 874 ls []) := by
  obtain ⟨r, c', d', e4, e5, hr'⟩ := hst c0 d0 hr (xs (x3 + 1).toNatClampNeg)
  obtain ⟨hx, hb, hml, hown, hts, hK, hA, hz⟩ := id hc
  refine lv_aload_n hx hb dL_law_874 rfl (lv_at hl 1 rfl) ?_
  refine lv_aload_n hx hb dL_law_875 rfl (lv_at hl 0 rfl) ?_
  refine lv_iload_n hx hb dL_law_876 rfl (lv_at hl 3 rfl) ?_
  refine lv_iconst (v := 1) hx hb dL_law_877 (by decide) ?_
  refine lv_iadd hx hb dL_law_878 ?_
  refine va_sld hx hb hX hbl hbA hG.2.2 h1 dL_law_879 ?_
  refine y_viA (rest := []) hc hG (k4_weighs ad c0 (xs (x3 + 1).toNatClampNeg) r c' e4) rfl rfl lL_106 ⟨rfl, rfl, by decide, by decide⟩ ⟨by decide, by decide⟩ rfl hl.1 (Nat.le_of_ble_eq_true rfl) rfl dL_law_880 (fun H locs hG => ?_)
  refine lv_aload_n hx hb dL_law_883 rfl (lv_at hl 2 rfl) ?_
  refine lv_aload_n hx hb dL_law_884 rfl (lv_at hl 0 rfl) ?_
  refine lv_iload_n hx hb dL_law_885 rfl (lv_at hl 3 rfl) ?_
  refine lv_iconst (v := 1) hx hb dL_law_886 (by decide) ?_
  refine lv_iadd hx hb dL_law_887 ?_
  refine va_sld hx hb hX hbl hbA hG.2.2 h1 dL_law_888 ?_
  refine y_viB (rest := [.int r]) hc hG (k5_weighs bd d0 (xs (x3 + 1).toNatClampNeg) r d' e5) rfl rfl lL_109 ⟨rfl, rfl, by decide, by decide⟩ ⟨by decide, by decide⟩ rfl hl.1 (Nat.le_of_ble_eq_true rfl) rfl dL_law_889 (fun H locs hG => ?_)
  refine lv_icmp_eq (tgt := 1416) hx hb dL_law_892 (by decide) (fun _ => ?_) (fun q => absurd rfl q)
  exact kk c' d' hr' ls H locs hl hG
set_option maxRecDepth 100000 in
set_option maxHeartbeats 4000000 in
theorem lc_23 {p : Program} {l : Launch} {e : Env} {s : State} {m : MethodId} {below : List Frame} {meth : Method} {c : Code} {Q : State → Prop} {D : va_G} {cI : ClassId} {tL b L : Nat} {xs : Nat → Int32} {Rel : CS → MS → Prop} (hst : Step_reads Rel) (hc : Cx p s m #[Value.ref b] c D cI tL (fun q => s.heap.size ≤ q) code 4 RL) (hX : va_X b L xs s s.heap) (hbl : b < s.heap.size) (hbA : ¬ s.heap.size ≤ b) (ad bd : Nat → Nat) (x3 : Int32) (h1 : vp_in (x3 + 1) L) (h2 : vp_in (x3 + 2) L) (h3 : vp_in (x3 + 3) L) (h4 : vp_in (x3 + 4) L) (h5 : vp_in (x3 + 5) L) (c0 : CS) (d0 : MS) (hr : Rel c0 d0)
    (kk : ∀ (c1 : CS) (d1 : MS), Rel c1 d1 → ∀ (ls : Array Slot) (H : Heap) (locs : List Loc), lv_has ls 4 [(0, .ref b), (1, .ref (ad 0)), (2, .ref (bd 0)), (3, .int x3)] → St D (fun q => s.heap.size ≤ q) s (w4 cI ad c1 ++ w5 cI bd d1) H locs → W p l e room_1 s m #[Value.ref b] below meth c H locs 47 9681 Q (F0 m 1416 ls []))
    (ls : Array Slot) (H : Heap) (locs : List Loc) (hl : lv_has ls 4 [(0, .ref b), (1, .ref (ad 0)), (2, .ref (bd 0)), (3, .int x3)]) (hG : St D (fun q => s.heap.size ≤ q) s (w4 cI ad c0 ++ w5 cI bd d0) H locs) : W p l e room_1 s m #[Value.ref b] below meth c H locs 47 9681 Q (F0 m 897 ls []) := by
  obtain ⟨r, c', d', e4, e5, hr'⟩ := hst c0 d0 hr (xs (x3 + 1).toNatClampNeg)
  obtain ⟨hx, hb, hml, hown, hts, hK, hA, hz⟩ := id hc
  refine lv_aload_n hx hb dL_law_897 rfl (lv_at hl 1 rfl) ?_
  refine lv_aload_n hx hb dL_law_898 rfl (lv_at hl 0 rfl) ?_
  refine lv_iload_n hx hb dL_law_899 rfl (lv_at hl 3 rfl) ?_
  refine lv_iconst (v := 1) hx hb dL_law_900 (by decide) ?_
  refine lv_iadd hx hb dL_law_901 ?_
  refine va_sld hx hb hX hbl hbA hG.2.2 h1 dL_law_902 ?_
  refine y_viA (rest := []) hc hG (k4_reads ad c0 (xs (x3 + 1).toNatClampNeg) r c' e4) rfl rfl lL_110 ⟨rfl, rfl, by decide, by decide⟩ ⟨by decide, by decide⟩ rfl hl.1 (Nat.le_of_ble_eq_true rfl) rfl dL_law_903 (fun H locs hG => ?_)
  refine lv_aload_n hx hb dL_law_906 rfl (lv_at hl 2 rfl) ?_
  refine lv_aload_n hx hb dL_law_907 rfl (lv_at hl 0 rfl) ?_
  refine lv_iload_n hx hb dL_law_908 rfl (lv_at hl 3 rfl) ?_
  refine lv_iconst (v := 1) hx hb dL_law_909 (by decide) ?_
  refine lv_iadd hx hb dL_law_910 ?_
  refine va_sld hx hb hX hbl hbA hG.2.2 h1 dL_law_911 ?_
  refine y_viB (rest := [.int r]) hc hG (k5_reads bd d0 (xs (x3 + 1).toNatClampNeg) r d' e5) rfl rfl lL_113 ⟨rfl, rfl, by decide, by decide⟩ ⟨by decide, by decide⟩ rfl hl.1 (Nat.le_of_ble_eq_true rfl) rfl dL_law_912 (fun H locs hG => ?_)
  refine lv_icmp_eq (tgt := 1416) hx hb dL_law_915 (by decide) (fun _ => ?_) (fun q => absurd rfl q)
  exact kk c' d' hr' ls H locs hl hG
set_option maxRecDepth 100000 in
set_option maxHeartbeats 4000000 in
theorem lc_24 {p : Program} {l : Launch} {e : Env} {s : State} {m : MethodId} {below : List Frame} {meth : Method} {c : Code} {Q : State → Prop} {D : va_G} {cI : ClassId} {tL b L : Nat} {xs : Nat → Int32} {Rel : CS → MS → Prop} (hst : Step_first Rel) (hc : Cx p s m #[Value.ref b] c D cI tL (fun q => s.heap.size ≤ q) code 4 RL) (hX : va_X b L xs s s.heap) (hbl : b < s.heap.size) (hbA : ¬ s.heap.size ≤ b) (ad bd : Nat → Nat) (x3 : Int32) (h1 : vp_in (x3 + 1) L) (h2 : vp_in (x3 + 2) L) (h3 : vp_in (x3 + 3) L) (h4 : vp_in (x3 + 4) L) (h5 : vp_in (x3 + 5) L) (c0 : CS) (d0 : MS) (hr : Rel c0 d0)
    (kk : ∀ (c1 : CS) (d1 : MS), Rel c1 d1 → ∀ (ls : Array Slot) (H : Heap) (locs : List Loc), lv_has ls 4 [(0, .ref b), (1, .ref (ad 0)), (2, .ref (bd 0)), (3, .int x3)] → St D (fun q => s.heap.size ≤ q) s (w4 cI ad c1 ++ w5 cI bd d1) H locs → W p l e room_1 s m #[Value.ref b] below meth c H locs 47 9681 Q (F0 m 1416 ls []))
    (ls : Array Slot) (H : Heap) (locs : List Loc) (hl : lv_has ls 4 [(0, .ref b), (1, .ref (ad 0)), (2, .ref (bd 0)), (3, .int x3)]) (hG : St D (fun q => s.heap.size ≤ q) s (w4 cI ad c0 ++ w5 cI bd d0) H locs) : W p l e room_1 s m #[Value.ref b] below meth c H locs 47 9681 Q (F0 m 920 ls []) := by
  obtain ⟨r, c', d', e4, e5, hr'⟩ := hst c0 d0 hr (xs (x3 + 1).toNatClampNeg)
  obtain ⟨hx, hb, hml, hown, hts, hK, hA, hz⟩ := id hc
  refine lv_aload_n hx hb dL_law_920 rfl (lv_at hl 1 rfl) ?_
  refine lv_aload_n hx hb dL_law_921 rfl (lv_at hl 0 rfl) ?_
  refine lv_iload_n hx hb dL_law_922 rfl (lv_at hl 3 rfl) ?_
  refine lv_iconst (v := 1) hx hb dL_law_923 (by decide) ?_
  refine lv_iadd hx hb dL_law_924 ?_
  refine va_sld hx hb hX hbl hbA hG.2.2 h1 dL_law_925 ?_
  refine y_viA (rest := []) hc hG (k4_first ad c0 (xs (x3 + 1).toNatClampNeg) r c' e4) rfl rfl lL_114 ⟨rfl, rfl, by decide, by decide⟩ ⟨by decide, by decide⟩ rfl hl.1 (Nat.le_of_ble_eq_true rfl) rfl dL_law_926 (fun H locs hG => ?_)
  refine lv_aload_n hx hb dL_law_929 rfl (lv_at hl 2 rfl) ?_
  refine lv_aload_n hx hb dL_law_930 rfl (lv_at hl 0 rfl) ?_
  refine lv_iload_n hx hb dL_law_931 rfl (lv_at hl 3 rfl) ?_
  refine lv_iconst (v := 1) hx hb dL_law_932 (by decide) ?_
  refine lv_iadd hx hb dL_law_933 ?_
  refine va_sld hx hb hX hbl hbA hG.2.2 h1 dL_law_934 ?_
  refine y_viB (rest := [.int r]) hc hG (k5_first bd d0 (xs (x3 + 1).toNatClampNeg) r d' e5) rfl rfl lL_117 ⟨rfl, rfl, by decide, by decide⟩ ⟨by decide, by decide⟩ rfl hl.1 (Nat.le_of_ble_eq_true rfl) rfl dL_law_935 (fun H locs hG => ?_)
  refine lv_icmp_eq (tgt := 1416) hx hb dL_law_938 (by decide) (fun _ => ?_) (fun q => absurd rfl q)
  exact kk c' d' hr' ls H locs hl hG
set_option maxRecDepth 100000 in
set_option maxHeartbeats 4000000 in
theorem lc_25 {p : Program} {l : Launch} {e : Env} {s : State} {m : MethodId} {below : List Frame} {meth : Method} {c : Code} {Q : State → Prop} {D : va_G} {cI : ClassId} {tL b L : Nat} {xs : Nat → Int32} {Rel : CS → MS → Prop} (hst : Step_found Rel) (hc : Cx p s m #[Value.ref b] c D cI tL (fun q => s.heap.size ≤ q) code 4 RL) (hX : va_X b L xs s s.heap) (hbl : b < s.heap.size) (hbA : ¬ s.heap.size ≤ b) (ad bd : Nat → Nat) (x3 : Int32) (h1 : vp_in (x3 + 1) L) (h2 : vp_in (x3 + 2) L) (h3 : vp_in (x3 + 3) L) (h4 : vp_in (x3 + 4) L) (h5 : vp_in (x3 + 5) L) (c0 : CS) (d0 : MS) (hr : Rel c0 d0)
    (kk : ∀ (c1 : CS) (d1 : MS), Rel c1 d1 → ∀ (ls : Array Slot) (H : Heap) (locs : List Loc), lv_has ls 4 [(0, .ref b), (1, .ref (ad 0)), (2, .ref (bd 0)), (3, .int x3)] → St D (fun q => s.heap.size ≤ q) s (w4 cI ad c1 ++ w5 cI bd d1) H locs → W p l e room_1 s m #[Value.ref b] below meth c H locs 47 9681 Q (F0 m 1416 ls []))
    (ls : Array Slot) (H : Heap) (locs : List Loc) (hl : lv_has ls 4 [(0, .ref b), (1, .ref (ad 0)), (2, .ref (bd 0)), (3, .int x3)]) (hG : St D (fun q => s.heap.size ≤ q) s (w4 cI ad c0 ++ w5 cI bd d0) H locs) : W p l e room_1 s m #[Value.ref b] below meth c H locs 47 9681 Q (F0 m 943 ls []) := by
  obtain ⟨r, c', d', e4, e5, hr'⟩ := hst c0 d0 hr (xs (x3 + 1).toNatClampNeg) (xs (x3 + 2).toNatClampNeg)
  obtain ⟨hx, hb, hml, hown, hts, hK, hA, hz⟩ := id hc
  refine lv_aload_n hx hb dL_law_943 rfl (lv_at hl 1 rfl) ?_
  refine lv_aload_n hx hb dL_law_944 rfl (lv_at hl 0 rfl) ?_
  refine lv_iload_n hx hb dL_law_945 rfl (lv_at hl 3 rfl) ?_
  refine lv_iconst (v := 1) hx hb dL_law_946 (by decide) ?_
  refine lv_iadd hx hb dL_law_947 ?_
  refine va_sld hx hb hX hbl hbA hG.2.2 h1 dL_law_948 ?_
  refine lv_aload_n hx hb dL_law_949 rfl (lv_at hl 0 rfl) ?_
  refine lv_iload_n hx hb dL_law_950 rfl (lv_at hl 3 rfl) ?_
  refine lv_iconst (v := 2) hx hb dL_law_951 (by decide) ?_
  refine lv_iadd hx hb dL_law_952 ?_
  refine va_sld hx hb hX hbl hbA hG.2.2 h2 dL_law_953 ?_
  refine y_viA (rest := []) hc hG (k4_found ad c0 (xs (x3 + 1).toNatClampNeg) (xs (x3 + 2).toNatClampNeg) r c' e4) rfl rfl lL_118 ⟨rfl, rfl, by decide, by decide⟩ ⟨by decide, by decide⟩ rfl hl.1 (Nat.le_of_ble_eq_true rfl) rfl dL_law_954 (fun H locs hG => ?_)
  refine lv_aload_n hx hb dL_law_957 rfl (lv_at hl 2 rfl) ?_
  refine lv_aload_n hx hb dL_law_958 rfl (lv_at hl 0 rfl) ?_
  refine lv_iload_n hx hb dL_law_959 rfl (lv_at hl 3 rfl) ?_
  refine lv_iconst (v := 1) hx hb dL_law_960 (by decide) ?_
  refine lv_iadd hx hb dL_law_961 ?_
  refine va_sld hx hb hX hbl hbA hG.2.2 h1 dL_law_962 ?_
  refine lv_aload_n hx hb dL_law_963 rfl (lv_at hl 0 rfl) ?_
  refine lv_iload_n hx hb dL_law_964 rfl (lv_at hl 3 rfl) ?_
  refine lv_iconst (v := 2) hx hb dL_law_965 (by decide) ?_
  refine lv_iadd hx hb dL_law_966 ?_
  refine va_sld hx hb hX hbl hbA hG.2.2 h2 dL_law_967 ?_
  refine y_viB (rest := [.int r]) hc hG (k5_found bd d0 (xs (x3 + 1).toNatClampNeg) (xs (x3 + 2).toNatClampNeg) r d' e5) rfl rfl lL_121 ⟨rfl, rfl, by decide, by decide⟩ ⟨by decide, by decide⟩ rfl hl.1 (Nat.le_of_ble_eq_true rfl) rfl dL_law_968 (fun H locs hG => ?_)
  refine lv_icmp_eq (tgt := 1416) hx hb dL_law_971 (by decide) (fun _ => ?_) (fun q => absurd rfl q)
  exact kk c' d' hr' ls H locs hl hG
set_option maxRecDepth 100000 in
set_option maxHeartbeats 4000000 in
theorem lc_26 {p : Program} {l : Launch} {e : Env} {s : State} {m : MethodId} {below : List Frame} {meth : Method} {c : Code} {Q : State → Prop} {D : va_G} {cI : ClassId} {tL b L : Nat} {xs : Nat → Int32} {Rel : CS → MS → Prop} (hst : Step_best Rel) (hc : Cx p s m #[Value.ref b] c D cI tL (fun q => s.heap.size ≤ q) code 4 RL) (hX : va_X b L xs s s.heap) (hbl : b < s.heap.size) (hbA : ¬ s.heap.size ≤ b) (ad bd : Nat → Nat) (x3 : Int32) (h1 : vp_in (x3 + 1) L) (h2 : vp_in (x3 + 2) L) (h3 : vp_in (x3 + 3) L) (h4 : vp_in (x3 + 4) L) (h5 : vp_in (x3 + 5) L) (c0 : CS) (d0 : MS) (hr : Rel c0 d0)
    (kk : ∀ (c1 : CS) (d1 : MS), Rel c1 d1 → ∀ (ls : Array Slot) (H : Heap) (locs : List Loc), lv_has ls 4 [(0, .ref b), (1, .ref (ad 0)), (2, .ref (bd 0)), (3, .int x3)] → St D (fun q => s.heap.size ≤ q) s (w4 cI ad c1 ++ w5 cI bd d1) H locs → W p l e room_1 s m #[Value.ref b] below meth c H locs 47 9681 Q (F0 m 1416 ls []))
    (ls : Array Slot) (H : Heap) (locs : List Loc) (hl : lv_has ls 4 [(0, .ref b), (1, .ref (ad 0)), (2, .ref (bd 0)), (3, .int x3)]) (hG : St D (fun q => s.heap.size ≤ q) s (w4 cI ad c0 ++ w5 cI bd d0) H locs) : W p l e room_1 s m #[Value.ref b] below meth c H locs 47 9681 Q (F0 m 976 ls []) := by
  obtain ⟨r, c', d', e4, e5, hr'⟩ := hst c0 d0 hr (xs (x3 + 1).toNatClampNeg)
  obtain ⟨hx, hb, hml, hown, hts, hK, hA, hz⟩ := id hc
  refine lv_aload_n hx hb dL_law_976 rfl (lv_at hl 1 rfl) ?_
  refine lv_aload_n hx hb dL_law_977 rfl (lv_at hl 0 rfl) ?_
  refine lv_iload_n hx hb dL_law_978 rfl (lv_at hl 3 rfl) ?_
  refine lv_iconst (v := 1) hx hb dL_law_979 (by decide) ?_
  refine lv_iadd hx hb dL_law_980 ?_
  refine va_sld hx hb hX hbl hbA hG.2.2 h1 dL_law_981 ?_
  refine y_viA (rest := []) hc hG (k4_best ad c0 (xs (x3 + 1).toNatClampNeg) r c' e4) rfl rfl lL_122 ⟨rfl, rfl, by decide, by decide⟩ ⟨by decide, by decide⟩ rfl hl.1 (Nat.le_of_ble_eq_true rfl) rfl dL_law_982 (fun H locs hG => ?_)
  refine lv_aload_n hx hb dL_law_985 rfl (lv_at hl 2 rfl) ?_
  refine lv_aload_n hx hb dL_law_986 rfl (lv_at hl 0 rfl) ?_
  refine lv_iload_n hx hb dL_law_987 rfl (lv_at hl 3 rfl) ?_
  refine lv_iconst (v := 1) hx hb dL_law_988 (by decide) ?_
  refine lv_iadd hx hb dL_law_989 ?_
  refine va_sld hx hb hX hbl hbA hG.2.2 h1 dL_law_990 ?_
  refine y_viB (rest := [.int r]) hc hG (k5_best bd d0 (xs (x3 + 1).toNatClampNeg) r d' e5) rfl rfl lL_125 ⟨rfl, rfl, by decide, by decide⟩ ⟨by decide, by decide⟩ rfl hl.1 (Nat.le_of_ble_eq_true rfl) rfl dL_law_991 (fun H locs hG => ?_)
  refine lv_icmp_eq (tgt := 1416) hx hb dL_law_994 (by decide) (fun _ => ?_) (fun q => absurd rfl q)
  exact kk c' d' hr' ls H locs hl hG
set_option maxRecDepth 100000 in
set_option maxHeartbeats 4000000 in
theorem lc_27 {p : Program} {l : Launch} {e : Env} {s : State} {m : MethodId} {below : List Frame} {meth : Method} {c : Code} {Q : State → Prop} {D : va_G} {cI : ClassId} {tL b L : Nat} {xs : Nat → Int32} {Rel : CS → MS → Prop} (hst : Step_gap Rel) (hc : Cx p s m #[Value.ref b] c D cI tL (fun q => s.heap.size ≤ q) code 4 RL) (hX : va_X b L xs s s.heap) (hbl : b < s.heap.size) (hbA : ¬ s.heap.size ≤ b) (ad bd : Nat → Nat) (x3 : Int32) (h1 : vp_in (x3 + 1) L) (h2 : vp_in (x3 + 2) L) (h3 : vp_in (x3 + 3) L) (h4 : vp_in (x3 + 4) L) (h5 : vp_in (x3 + 5) L) (c0 : CS) (d0 : MS) (hr : Rel c0 d0)
    (kk : ∀ (c1 : CS) (d1 : MS), Rel c1 d1 → ∀ (ls : Array Slot) (H : Heap) (locs : List Loc), lv_has ls 4 [(0, .ref b), (1, .ref (ad 0)), (2, .ref (bd 0)), (3, .int x3)] → St D (fun q => s.heap.size ≤ q) s (w4 cI ad c1 ++ w5 cI bd d1) H locs → W p l e room_1 s m #[Value.ref b] below meth c H locs 47 9681 Q (F0 m 1416 ls []))
    (ls : Array Slot) (H : Heap) (locs : List Loc) (hl : lv_has ls 4 [(0, .ref b), (1, .ref (ad 0)), (2, .ref (bd 0)), (3, .int x3)]) (hG : St D (fun q => s.heap.size ≤ q) s (w4 cI ad c0 ++ w5 cI bd d0) H locs) : W p l e room_1 s m #[Value.ref b] below meth c H locs 47 9681 Q (F0 m 999 ls []) := by
  obtain ⟨r, c', d', e4, e5, hr'⟩ := hst c0 d0 hr (xs (x3 + 1).toNatClampNeg)
  obtain ⟨hx, hb, hml, hown, hts, hK, hA, hz⟩ := id hc
  refine lv_aload_n hx hb dL_law_999 rfl (lv_at hl 1 rfl) ?_
  refine lv_aload_n hx hb dL_law_1000 rfl (lv_at hl 0 rfl) ?_
  refine lv_iload_n hx hb dL_law_1001 rfl (lv_at hl 3 rfl) ?_
  refine lv_iconst (v := 1) hx hb dL_law_1002 (by decide) ?_
  refine lv_iadd hx hb dL_law_1003 ?_
  refine va_sld hx hb hX hbl hbA hG.2.2 h1 dL_law_1004 ?_
  refine y_viA (rest := []) hc hG (k4_gap ad c0 (xs (x3 + 1).toNatClampNeg) r c' e4) rfl rfl lL_126 ⟨rfl, rfl, by decide, by decide⟩ ⟨by decide, by decide⟩ rfl hl.1 (Nat.le_of_ble_eq_true rfl) rfl dL_law_1005 (fun H locs hG => ?_)
  refine lv_aload_n hx hb dL_law_1008 rfl (lv_at hl 2 rfl) ?_
  refine lv_aload_n hx hb dL_law_1009 rfl (lv_at hl 0 rfl) ?_
  refine lv_iload_n hx hb dL_law_1010 rfl (lv_at hl 3 rfl) ?_
  refine lv_iconst (v := 1) hx hb dL_law_1011 (by decide) ?_
  refine lv_iadd hx hb dL_law_1012 ?_
  refine va_sld hx hb hX hbl hbA hG.2.2 h1 dL_law_1013 ?_
  refine y_viB (rest := [.int r]) hc hG (k5_gap bd d0 (xs (x3 + 1).toNatClampNeg) r d' e5) rfl rfl lL_129 ⟨rfl, rfl, by decide, by decide⟩ ⟨by decide, by decide⟩ rfl hl.1 (Nat.le_of_ble_eq_true rfl) rfl dL_law_1014 (fun H locs hG => ?_)
  refine lv_icmp_eq (tgt := 1416) hx hb dL_law_1017 (by decide) (fun _ => ?_) (fun q => absurd rfl q)
  exact kk c' d' hr' ls H locs hl hG
set_option maxRecDepth 100000 in
set_option maxHeartbeats 4000000 in
theorem lc_28 {p : Program} {l : Launch} {e : Env} {s : State} {m : MethodId} {below : List Frame} {meth : Method} {c : Code} {Q : State → Prop} {D : va_G} {cI : ClassId} {tL b L : Nat} {xs : Nat → Int32} {Rel : CS → MS → Prop} (hst : Step_sure Rel) (hc : Cx p s m #[Value.ref b] c D cI tL (fun q => s.heap.size ≤ q) code 4 RL) (hX : va_X b L xs s s.heap) (hbl : b < s.heap.size) (hbA : ¬ s.heap.size ≤ b) (ad bd : Nat → Nat) (x3 : Int32) (h1 : vp_in (x3 + 1) L) (h2 : vp_in (x3 + 2) L) (h3 : vp_in (x3 + 3) L) (h4 : vp_in (x3 + 4) L) (h5 : vp_in (x3 + 5) L) (c0 : CS) (d0 : MS) (hr : Rel c0 d0)
    (kk : ∀ (c1 : CS) (d1 : MS), Rel c1 d1 → ∀ (ls : Array Slot) (H : Heap) (locs : List Loc), lv_has ls 4 [(0, .ref b), (1, .ref (ad 0)), (2, .ref (bd 0)), (3, .int x3)] → St D (fun q => s.heap.size ≤ q) s (w4 cI ad c1 ++ w5 cI bd d1) H locs → W p l e room_1 s m #[Value.ref b] below meth c H locs 47 9681 Q (F0 m 1416 ls []))
    (ls : Array Slot) (H : Heap) (locs : List Loc) (hl : lv_has ls 4 [(0, .ref b), (1, .ref (ad 0)), (2, .ref (bd 0)), (3, .int x3)]) (hG : St D (fun q => s.heap.size ≤ q) s (w4 cI ad c0 ++ w5 cI bd d0) H locs) : W p l e room_1 s m #[Value.ref b] below meth c H locs 47 9681 Q (F0 m 1022 ls []) := by
  obtain ⟨r, c', d', e4, e5, hr'⟩ := hst c0 d0 hr (xs (x3 + 1).toNatClampNeg)
  obtain ⟨hx, hb, hml, hown, hts, hK, hA, hz⟩ := id hc
  refine lv_aload_n hx hb dL_law_1022 rfl (lv_at hl 1 rfl) ?_
  refine lv_aload_n hx hb dL_law_1023 rfl (lv_at hl 0 rfl) ?_
  refine lv_iload_n hx hb dL_law_1024 rfl (lv_at hl 3 rfl) ?_
  refine lv_iconst (v := 1) hx hb dL_law_1025 (by decide) ?_
  refine lv_iadd hx hb dL_law_1026 ?_
  refine va_sld hx hb hX hbl hbA hG.2.2 h1 dL_law_1027 ?_
  refine y_viA (rest := []) hc hG (k4_sure ad c0 (xs (x3 + 1).toNatClampNeg) r c' e4) rfl rfl lL_130 ⟨rfl, rfl, by decide, by decide⟩ ⟨by decide, by decide⟩ rfl hl.1 (Nat.le_of_ble_eq_true rfl) rfl dL_law_1028 (fun H locs hG => ?_)
  refine lv_aload_n hx hb dL_law_1031 rfl (lv_at hl 2 rfl) ?_
  refine lv_aload_n hx hb dL_law_1032 rfl (lv_at hl 0 rfl) ?_
  refine lv_iload_n hx hb dL_law_1033 rfl (lv_at hl 3 rfl) ?_
  refine lv_iconst (v := 1) hx hb dL_law_1034 (by decide) ?_
  refine lv_iadd hx hb dL_law_1035 ?_
  refine va_sld hx hb hX hbl hbA hG.2.2 h1 dL_law_1036 ?_
  refine y_viB (rest := [.int r]) hc hG (k5_sure bd d0 (xs (x3 + 1).toNatClampNeg) r d' e5) rfl rfl lL_133 ⟨rfl, rfl, by decide, by decide⟩ ⟨by decide, by decide⟩ rfl hl.1 (Nat.le_of_ble_eq_true rfl) rfl dL_law_1037 (fun H locs hG => ?_)
  refine lv_icmp_eq (tgt := 1416) hx hb dL_law_1040 (by decide) (fun _ => ?_) (fun q => absurd rfl q)
  exact kk c' d' hr' ls H locs hl hG
set_option maxRecDepth 100000 in
set_option maxHeartbeats 4000000 in
theorem lc_29 {p : Program} {l : Launch} {e : Env} {s : State} {m : MethodId} {below : List Frame} {meth : Method} {c : Code} {Q : State → Prop} {D : va_G} {cI : ClassId} {tL b L : Nat} {xs : Nat → Int32} {Rel : CS → MS → Prop} (hst : Step_places Rel) (hc : Cx p s m #[Value.ref b] c D cI tL (fun q => s.heap.size ≤ q) code 4 RL) (hX : va_X b L xs s s.heap) (hbl : b < s.heap.size) (hbA : ¬ s.heap.size ≤ b) (ad bd : Nat → Nat) (x3 : Int32) (h1 : vp_in (x3 + 1) L) (h2 : vp_in (x3 + 2) L) (h3 : vp_in (x3 + 3) L) (h4 : vp_in (x3 + 4) L) (h5 : vp_in (x3 + 5) L) (c0 : CS) (d0 : MS) (hr : Rel c0 d0)
    (kk : ∀ (c1 : CS) (d1 : MS), Rel c1 d1 → ∀ (ls : Array Slot) (H : Heap) (locs : List Loc), lv_has ls 4 [(0, .ref b), (1, .ref (ad 0)), (2, .ref (bd 0)), (3, .int x3)] → St D (fun q => s.heap.size ≤ q) s (w4 cI ad c1 ++ w5 cI bd d1) H locs → W p l e room_1 s m #[Value.ref b] below meth c H locs 47 9681 Q (F0 m 1416 ls []))
    (ls : Array Slot) (H : Heap) (locs : List Loc) (hl : lv_has ls 4 [(0, .ref b), (1, .ref (ad 0)), (2, .ref (bd 0)), (3, .int x3)]) (hG : St D (fun q => s.heap.size ≤ q) s (w4 cI ad c0 ++ w5 cI bd d0) H locs) : W p l e room_1 s m #[Value.ref b] below meth c H locs 47 9681 Q (F0 m 1045 ls []) := by
  obtain ⟨r, c', d', e4, e5, hr'⟩ := hst c0 d0 hr (xs (x3 + 1).toNatClampNeg) (xs (x3 + 2).toNatClampNeg)
  obtain ⟨hx, hb, hml, hown, hts, hK, hA, hz⟩ := id hc
  refine lv_aload_n hx hb dL_law_1045 rfl (lv_at hl 1 rfl) ?_
  refine lv_aload_n hx hb dL_law_1046 rfl (lv_at hl 0 rfl) ?_
  refine lv_iload_n hx hb dL_law_1047 rfl (lv_at hl 3 rfl) ?_
  refine lv_iconst (v := 1) hx hb dL_law_1048 (by decide) ?_
  refine lv_iadd hx hb dL_law_1049 ?_
  refine va_sld hx hb hX hbl hbA hG.2.2 h1 dL_law_1050 ?_
  refine lv_aload_n hx hb dL_law_1051 rfl (lv_at hl 0 rfl) ?_
  refine lv_iload_n hx hb dL_law_1052 rfl (lv_at hl 3 rfl) ?_
  refine lv_iconst (v := 2) hx hb dL_law_1053 (by decide) ?_
  refine lv_iadd hx hb dL_law_1054 ?_
  refine va_sld hx hb hX hbl hbA hG.2.2 h2 dL_law_1055 ?_
  refine y_viA (rest := []) hc hG (k4_places ad c0 (xs (x3 + 1).toNatClampNeg) (xs (x3 + 2).toNatClampNeg) r c' e4) rfl rfl lL_134 ⟨rfl, rfl, by decide, by decide⟩ ⟨by decide, by decide⟩ rfl hl.1 (Nat.le_of_ble_eq_true rfl) rfl dL_law_1056 (fun H locs hG => ?_)
  refine lv_aload_n hx hb dL_law_1059 rfl (lv_at hl 2 rfl) ?_
  refine lv_aload_n hx hb dL_law_1060 rfl (lv_at hl 0 rfl) ?_
  refine lv_iload_n hx hb dL_law_1061 rfl (lv_at hl 3 rfl) ?_
  refine lv_iconst (v := 1) hx hb dL_law_1062 (by decide) ?_
  refine lv_iadd hx hb dL_law_1063 ?_
  refine va_sld hx hb hX hbl hbA hG.2.2 h1 dL_law_1064 ?_
  refine lv_aload_n hx hb dL_law_1065 rfl (lv_at hl 0 rfl) ?_
  refine lv_iload_n hx hb dL_law_1066 rfl (lv_at hl 3 rfl) ?_
  refine lv_iconst (v := 2) hx hb dL_law_1067 (by decide) ?_
  refine lv_iadd hx hb dL_law_1068 ?_
  refine va_sld hx hb hX hbl hbA hG.2.2 h2 dL_law_1069 ?_
  refine y_viB (rest := [.int r]) hc hG (k5_places bd d0 (xs (x3 + 1).toNatClampNeg) (xs (x3 + 2).toNatClampNeg) r d' e5) rfl rfl lL_137 ⟨rfl, rfl, by decide, by decide⟩ ⟨by decide, by decide⟩ rfl hl.1 (Nat.le_of_ble_eq_true rfl) rfl dL_law_1070 (fun H locs hG => ?_)
  refine lv_icmp_eq (tgt := 1416) hx hb dL_law_1073 (by decide) (fun _ => ?_) (fun q => absurd rfl q)
  exact kk c' d' hr' ls H locs hl hG
set_option maxRecDepth 100000 in
set_option maxHeartbeats 4000000 in
theorem lc_30 {p : Program} {l : Launch} {e : Env} {s : State} {m : MethodId} {below : List Frame} {meth : Method} {c : Code} {Q : State → Prop} {D : va_G} {cI : ClassId} {tL b L : Nat} {xs : Nat → Int32} {Rel : CS → MS → Prop} (hst : Step_kinds Rel) (hc : Cx p s m #[Value.ref b] c D cI tL (fun q => s.heap.size ≤ q) code 4 RL) (hX : va_X b L xs s s.heap) (hbl : b < s.heap.size) (hbA : ¬ s.heap.size ≤ b) (ad bd : Nat → Nat) (x3 : Int32) (h1 : vp_in (x3 + 1) L) (h2 : vp_in (x3 + 2) L) (h3 : vp_in (x3 + 3) L) (h4 : vp_in (x3 + 4) L) (h5 : vp_in (x3 + 5) L) (c0 : CS) (d0 : MS) (hr : Rel c0 d0)
    (kk : ∀ (c1 : CS) (d1 : MS), Rel c1 d1 → ∀ (ls : Array Slot) (H : Heap) (locs : List Loc), lv_has ls 4 [(0, .ref b), (1, .ref (ad 0)), (2, .ref (bd 0)), (3, .int x3)] → St D (fun q => s.heap.size ≤ q) s (w4 cI ad c1 ++ w5 cI bd d1) H locs → W p l e room_1 s m #[Value.ref b] below meth c H locs 47 9681 Q (F0 m 1416 ls []))
    (ls : Array Slot) (H : Heap) (locs : List Loc) (hl : lv_has ls 4 [(0, .ref b), (1, .ref (ad 0)), (2, .ref (bd 0)), (3, .int x3)]) (hG : St D (fun q => s.heap.size ≤ q) s (w4 cI ad c0 ++ w5 cI bd d0) H locs) : W p l e room_1 s m #[Value.ref b] below meth c H locs 47 9681 Q (F0 m 1078 ls []) := by
  obtain ⟨r, c', d', e4, e5, hr'⟩ := hst c0 d0 hr (xs (x3 + 1).toNatClampNeg) (xs (x3 + 2).toNatClampNeg)
  obtain ⟨hx, hb, hml, hown, hts, hK, hA, hz⟩ := id hc
  refine lv_aload_n hx hb dL_law_1078 rfl (lv_at hl 1 rfl) ?_
  refine lv_aload_n hx hb dL_law_1079 rfl (lv_at hl 0 rfl) ?_
  refine lv_iload_n hx hb dL_law_1080 rfl (lv_at hl 3 rfl) ?_
  refine lv_iconst (v := 1) hx hb dL_law_1081 (by decide) ?_
  refine lv_iadd hx hb dL_law_1082 ?_
  refine va_sld hx hb hX hbl hbA hG.2.2 h1 dL_law_1083 ?_
  refine lv_aload_n hx hb dL_law_1084 rfl (lv_at hl 0 rfl) ?_
  refine lv_iload_n hx hb dL_law_1085 rfl (lv_at hl 3 rfl) ?_
  refine lv_iconst (v := 2) hx hb dL_law_1086 (by decide) ?_
  refine lv_iadd hx hb dL_law_1087 ?_
  refine va_sld hx hb hX hbl hbA hG.2.2 h2 dL_law_1088 ?_
  refine y_viA (rest := []) hc hG (k4_kinds ad c0 (xs (x3 + 1).toNatClampNeg) (xs (x3 + 2).toNatClampNeg) r c' e4) rfl rfl lL_138 ⟨rfl, rfl, by decide, by decide⟩ ⟨by decide, by decide⟩ rfl hl.1 (Nat.le_of_ble_eq_true rfl) rfl dL_law_1089 (fun H locs hG => ?_)
  refine lv_aload_n hx hb dL_law_1092 rfl (lv_at hl 2 rfl) ?_
  refine lv_aload_n hx hb dL_law_1093 rfl (lv_at hl 0 rfl) ?_
  refine lv_iload_n hx hb dL_law_1094 rfl (lv_at hl 3 rfl) ?_
  refine lv_iconst (v := 1) hx hb dL_law_1095 (by decide) ?_
  refine lv_iadd hx hb dL_law_1096 ?_
  refine va_sld hx hb hX hbl hbA hG.2.2 h1 dL_law_1097 ?_
  refine lv_aload_n hx hb dL_law_1098 rfl (lv_at hl 0 rfl) ?_
  refine lv_iload_n hx hb dL_law_1099 rfl (lv_at hl 3 rfl) ?_
  refine lv_iconst (v := 2) hx hb dL_law_1100 (by decide) ?_
  refine lv_iadd hx hb dL_law_1101 ?_
  refine va_sld hx hb hX hbl hbA hG.2.2 h2 dL_law_1102 ?_
  refine y_viB (rest := [.int r]) hc hG (k5_kinds bd d0 (xs (x3 + 1).toNatClampNeg) (xs (x3 + 2).toNatClampNeg) r d' e5) rfl rfl lL_141 ⟨rfl, rfl, by decide, by decide⟩ ⟨by decide, by decide⟩ rfl hl.1 (Nat.le_of_ble_eq_true rfl) rfl dL_law_1103 (fun H locs hG => ?_)
  refine lv_icmp_eq (tgt := 1416) hx hb dL_law_1106 (by decide) (fun _ => ?_) (fun q => absurd rfl q)
  exact kk c' d' hr' ls H locs hl hG
set_option maxRecDepth 100000 in
set_option maxHeartbeats 4000000 in
theorem lc_31 {p : Program} {l : Launch} {e : Env} {s : State} {m : MethodId} {below : List Frame} {meth : Method} {c : Code} {Q : State → Prop} {D : va_G} {cI : ClassId} {tL b L : Nat} {xs : Nat → Int32} {Rel : CS → MS → Prop} (hst : Step_next Rel) (hc : Cx p s m #[Value.ref b] c D cI tL (fun q => s.heap.size ≤ q) code 4 RL) (hX : va_X b L xs s s.heap) (hbl : b < s.heap.size) (hbA : ¬ s.heap.size ≤ b) (ad bd : Nat → Nat) (x3 : Int32) (h1 : vp_in (x3 + 1) L) (h2 : vp_in (x3 + 2) L) (h3 : vp_in (x3 + 3) L) (h4 : vp_in (x3 + 4) L) (h5 : vp_in (x3 + 5) L) (c0 : CS) (d0 : MS) (hr : Rel c0 d0)
    (kk : ∀ (c1 : CS) (d1 : MS), Rel c1 d1 → ∀ (ls : Array Slot) (H : Heap) (locs : List Loc), lv_has ls 4 [(0, .ref b), (1, .ref (ad 0)), (2, .ref (bd 0)), (3, .int x3)] → St D (fun q => s.heap.size ≤ q) s (w4 cI ad c1 ++ w5 cI bd d1) H locs → W p l e room_1 s m #[Value.ref b] below meth c H locs 47 9681 Q (F0 m 1416 ls []))
    (ls : Array Slot) (H : Heap) (locs : List Loc) (hl : lv_has ls 4 [(0, .ref b), (1, .ref (ad 0)), (2, .ref (bd 0)), (3, .int x3)]) (hG : St D (fun q => s.heap.size ≤ q) s (w4 cI ad c0 ++ w5 cI bd d0) H locs) : W p l e room_1 s m #[Value.ref b] below meth c H locs 47 9681 Q (F0 m 1111 ls []) := by
  obtain ⟨r, c', d', e4, e5, hr'⟩ := hst c0 d0 hr (xs (x3 + 1).toNatClampNeg) (xs (x3 + 2).toNatClampNeg)
  obtain ⟨hx, hb, hml, hown, hts, hK, hA, hz⟩ := id hc
  refine lv_aload_n hx hb dL_law_1111 rfl (lv_at hl 1 rfl) ?_
  refine lv_aload_n hx hb dL_law_1112 rfl (lv_at hl 0 rfl) ?_
  refine lv_iload_n hx hb dL_law_1113 rfl (lv_at hl 3 rfl) ?_
  refine lv_iconst (v := 1) hx hb dL_law_1114 (by decide) ?_
  refine lv_iadd hx hb dL_law_1115 ?_
  refine va_sld hx hb hX hbl hbA hG.2.2 h1 dL_law_1116 ?_
  refine lv_aload_n hx hb dL_law_1117 rfl (lv_at hl 0 rfl) ?_
  refine lv_iload_n hx hb dL_law_1118 rfl (lv_at hl 3 rfl) ?_
  refine lv_iconst (v := 2) hx hb dL_law_1119 (by decide) ?_
  refine lv_iadd hx hb dL_law_1120 ?_
  refine va_sld hx hb hX hbl hbA hG.2.2 h2 dL_law_1121 ?_
  refine y_viA (rest := []) hc hG (k4_next ad c0 (xs (x3 + 1).toNatClampNeg) (xs (x3 + 2).toNatClampNeg) r c' e4) rfl rfl lL_142 ⟨rfl, rfl, by decide, by decide⟩ ⟨by decide, by decide⟩ rfl hl.1 (Nat.le_of_ble_eq_true rfl) rfl dL_law_1122 (fun H locs hG => ?_)
  refine lv_aload_n hx hb dL_law_1125 rfl (lv_at hl 2 rfl) ?_
  refine lv_aload_n hx hb dL_law_1126 rfl (lv_at hl 0 rfl) ?_
  refine lv_iload_n hx hb dL_law_1127 rfl (lv_at hl 3 rfl) ?_
  refine lv_iconst (v := 1) hx hb dL_law_1128 (by decide) ?_
  refine lv_iadd hx hb dL_law_1129 ?_
  refine va_sld hx hb hX hbl hbA hG.2.2 h1 dL_law_1130 ?_
  refine lv_aload_n hx hb dL_law_1131 rfl (lv_at hl 0 rfl) ?_
  refine lv_iload_n hx hb dL_law_1132 rfl (lv_at hl 3 rfl) ?_
  refine lv_iconst (v := 2) hx hb dL_law_1133 (by decide) ?_
  refine lv_iadd hx hb dL_law_1134 ?_
  refine va_sld hx hb hX hbl hbA hG.2.2 h2 dL_law_1135 ?_
  refine y_viB (rest := [.int r]) hc hG (k5_next bd d0 (xs (x3 + 1).toNatClampNeg) (xs (x3 + 2).toNatClampNeg) r d' e5) rfl rfl lL_145 ⟨rfl, rfl, by decide, by decide⟩ ⟨by decide, by decide⟩ rfl hl.1 (Nat.le_of_ble_eq_true rfl) rfl dL_law_1136 (fun H locs hG => ?_)
  refine lv_icmp_eq (tgt := 1416) hx hb dL_law_1139 (by decide) (fun _ => ?_) (fun q => absurd rfl q)
  exact kk c' d' hr' ls H locs hl hG
set_option maxRecDepth 100000 in
set_option maxHeartbeats 4000000 in
theorem lc_32 {p : Program} {l : Launch} {e : Env} {s : State} {m : MethodId} {below : List Frame} {meth : Method} {c : Code} {Q : State → Prop} {D : va_G} {cI : ClassId} {tL b L : Nat} {xs : Nat → Int32} {Rel : CS → MS → Prop} (hst : Step_sets Rel) (hc : Cx p s m #[Value.ref b] c D cI tL (fun q => s.heap.size ≤ q) code 4 RL) (hX : va_X b L xs s s.heap) (hbl : b < s.heap.size) (hbA : ¬ s.heap.size ≤ b) (ad bd : Nat → Nat) (x3 : Int32) (h1 : vp_in (x3 + 1) L) (h2 : vp_in (x3 + 2) L) (h3 : vp_in (x3 + 3) L) (h4 : vp_in (x3 + 4) L) (h5 : vp_in (x3 + 5) L) (c0 : CS) (d0 : MS) (hr : Rel c0 d0)
    (kk : ∀ (c1 : CS) (d1 : MS), Rel c1 d1 → ∀ (ls : Array Slot) (H : Heap) (locs : List Loc), lv_has ls 4 [(0, .ref b), (1, .ref (ad 0)), (2, .ref (bd 0)), (3, .int x3)] → St D (fun q => s.heap.size ≤ q) s (w4 cI ad c1 ++ w5 cI bd d1) H locs → W p l e room_1 s m #[Value.ref b] below meth c H locs 47 9681 Q (F0 m 1416 ls []))
    (ls : Array Slot) (H : Heap) (locs : List Loc) (hl : lv_has ls 4 [(0, .ref b), (1, .ref (ad 0)), (2, .ref (bd 0)), (3, .int x3)]) (hG : St D (fun q => s.heap.size ≤ q) s (w4 cI ad c0 ++ w5 cI bd d0) H locs) : W p l e room_1 s m #[Value.ref b] below meth c H locs 47 9681 Q (F0 m 1144 ls []) := by
  obtain ⟨r, c', d', e4, e5, hr'⟩ := hst c0 d0 hr (xs (x3 + 1).toNatClampNeg)
  obtain ⟨hx, hb, hml, hown, hts, hK, hA, hz⟩ := id hc
  refine lv_aload_n hx hb dL_law_1144 rfl (lv_at hl 1 rfl) ?_
  refine lv_aload_n hx hb dL_law_1145 rfl (lv_at hl 0 rfl) ?_
  refine lv_iload_n hx hb dL_law_1146 rfl (lv_at hl 3 rfl) ?_
  refine lv_iconst (v := 1) hx hb dL_law_1147 (by decide) ?_
  refine lv_iadd hx hb dL_law_1148 ?_
  refine va_sld hx hb hX hbl hbA hG.2.2 h1 dL_law_1149 ?_
  refine y_viA (rest := []) hc hG (k4_sets ad c0 (xs (x3 + 1).toNatClampNeg) r c' e4) rfl rfl lL_146 ⟨rfl, rfl, by decide, by decide⟩ ⟨by decide, by decide⟩ rfl hl.1 (Nat.le_of_ble_eq_true rfl) rfl dL_law_1150 (fun H locs hG => ?_)
  refine lv_aload_n hx hb dL_law_1153 rfl (lv_at hl 2 rfl) ?_
  refine lv_aload_n hx hb dL_law_1154 rfl (lv_at hl 0 rfl) ?_
  refine lv_iload_n hx hb dL_law_1155 rfl (lv_at hl 3 rfl) ?_
  refine lv_iconst (v := 1) hx hb dL_law_1156 (by decide) ?_
  refine lv_iadd hx hb dL_law_1157 ?_
  refine va_sld hx hb hX hbl hbA hG.2.2 h1 dL_law_1158 ?_
  refine y_viB (rest := [.int r]) hc hG (k5_sets bd d0 (xs (x3 + 1).toNatClampNeg) r d' e5) rfl rfl lL_149 ⟨rfl, rfl, by decide, by decide⟩ ⟨by decide, by decide⟩ rfl hl.1 (Nat.le_of_ble_eq_true rfl) rfl dL_law_1159 (fun H locs hG => ?_)
  refine lv_icmp_eq (tgt := 1416) hx hb dL_law_1162 (by decide) (fun _ => ?_) (fun q => absurd rfl q)
  exact kk c' d' hr' ls H locs hl hG
set_option maxRecDepth 100000 in
set_option maxHeartbeats 4000000 in
theorem lc_33 {p : Program} {l : Launch} {e : Env} {s : State} {m : MethodId} {below : List Frame} {meth : Method} {c : Code} {Q : State → Prop} {D : va_G} {cI : ClassId} {tL b L : Nat} {xs : Nat → Int32} {Rel : CS → MS → Prop} (hst : Step_surely Rel) (hc : Cx p s m #[Value.ref b] c D cI tL (fun q => s.heap.size ≤ q) code 4 RL) (hX : va_X b L xs s s.heap) (hbl : b < s.heap.size) (hbA : ¬ s.heap.size ≤ b) (ad bd : Nat → Nat) (x3 : Int32) (h1 : vp_in (x3 + 1) L) (h2 : vp_in (x3 + 2) L) (h3 : vp_in (x3 + 3) L) (h4 : vp_in (x3 + 4) L) (h5 : vp_in (x3 + 5) L) (c0 : CS) (d0 : MS) (hr : Rel c0 d0)
    (kk : ∀ (c1 : CS) (d1 : MS), Rel c1 d1 → ∀ (ls : Array Slot) (H : Heap) (locs : List Loc), lv_has ls 4 [(0, .ref b), (1, .ref (ad 0)), (2, .ref (bd 0)), (3, .int x3)] → St D (fun q => s.heap.size ≤ q) s (w4 cI ad c1 ++ w5 cI bd d1) H locs → W p l e room_1 s m #[Value.ref b] below meth c H locs 47 9681 Q (F0 m 1416 ls []))
    (ls : Array Slot) (H : Heap) (locs : List Loc) (hl : lv_has ls 4 [(0, .ref b), (1, .ref (ad 0)), (2, .ref (bd 0)), (3, .int x3)]) (hG : St D (fun q => s.heap.size ≤ q) s (w4 cI ad c0 ++ w5 cI bd d0) H locs) : W p l e room_1 s m #[Value.ref b] below meth c H locs 47 9681 Q (F0 m 1167 ls []) := by
  obtain ⟨r, c', d', e4, e5, hr'⟩ := hst c0 d0 hr (xs (x3 + 1).toNatClampNeg)
  obtain ⟨hx, hb, hml, hown, hts, hK, hA, hz⟩ := id hc
  refine lv_aload_n hx hb dL_law_1167 rfl (lv_at hl 1 rfl) ?_
  refine lv_aload_n hx hb dL_law_1168 rfl (lv_at hl 0 rfl) ?_
  refine lv_iload_n hx hb dL_law_1169 rfl (lv_at hl 3 rfl) ?_
  refine lv_iconst (v := 1) hx hb dL_law_1170 (by decide) ?_
  refine lv_iadd hx hb dL_law_1171 ?_
  refine va_sld hx hb hX hbl hbA hG.2.2 h1 dL_law_1172 ?_
  refine y_viA (rest := []) hc hG (k4_surely ad c0 (xs (x3 + 1).toNatClampNeg) r c' e4) rfl rfl lL_150 ⟨rfl, rfl, by decide, by decide⟩ ⟨by decide, by decide⟩ rfl hl.1 (Nat.le_of_ble_eq_true rfl) rfl dL_law_1173 (fun H locs hG => ?_)
  refine lv_aload_n hx hb dL_law_1176 rfl (lv_at hl 2 rfl) ?_
  refine lv_aload_n hx hb dL_law_1177 rfl (lv_at hl 0 rfl) ?_
  refine lv_iload_n hx hb dL_law_1178 rfl (lv_at hl 3 rfl) ?_
  refine lv_iconst (v := 1) hx hb dL_law_1179 (by decide) ?_
  refine lv_iadd hx hb dL_law_1180 ?_
  refine va_sld hx hb hX hbl hbA hG.2.2 h1 dL_law_1181 ?_
  refine y_viB (rest := [.int r]) hc hG (k5_surely bd d0 (xs (x3 + 1).toNatClampNeg) r d' e5) rfl rfl lL_153 ⟨rfl, rfl, by decide, by decide⟩ ⟨by decide, by decide⟩ rfl hl.1 (Nat.le_of_ble_eq_true rfl) rfl dL_law_1182 (fun H locs hG => ?_)
  refine lv_icmp_eq (tgt := 1416) hx hb dL_law_1185 (by decide) (fun _ => ?_) (fun q => absurd rfl q)
  exact kk c' d' hr' ls H locs hl hG
set_option maxRecDepth 100000 in
set_option maxHeartbeats 4000000 in
theorem lc_34 {p : Program} {l : Launch} {e : Env} {s : State} {m : MethodId} {below : List Frame} {meth : Method} {c : Code} {Q : State → Prop} {D : va_G} {cI : ClassId} {tL b L : Nat} {xs : Nat → Int32} {Rel : CS → MS → Prop} (hst : Step_duel Rel) (hc : Cx p s m #[Value.ref b] c D cI tL (fun q => s.heap.size ≤ q) code 4 RL) (hX : va_X b L xs s s.heap) (hbl : b < s.heap.size) (hbA : ¬ s.heap.size ≤ b) (ad bd : Nat → Nat) (x3 : Int32) (h1 : vp_in (x3 + 1) L) (h2 : vp_in (x3 + 2) L) (h3 : vp_in (x3 + 3) L) (h4 : vp_in (x3 + 4) L) (h5 : vp_in (x3 + 5) L) (c0 : CS) (d0 : MS) (hr : Rel c0 d0)
    (kk : ∀ (c1 : CS) (d1 : MS), Rel c1 d1 → ∀ (ls : Array Slot) (H : Heap) (locs : List Loc), lv_has ls 4 [(0, .ref b), (1, .ref (ad 0)), (2, .ref (bd 0)), (3, .int x3)] → St D (fun q => s.heap.size ≤ q) s (w4 cI ad c1 ++ w5 cI bd d1) H locs → W p l e room_1 s m #[Value.ref b] below meth c H locs 47 9681 Q (F0 m 1416 ls []))
    (ls : Array Slot) (H : Heap) (locs : List Loc) (hl : lv_has ls 4 [(0, .ref b), (1, .ref (ad 0)), (2, .ref (bd 0)), (3, .int x3)]) (hG : St D (fun q => s.heap.size ≤ q) s (w4 cI ad c0 ++ w5 cI bd d0) H locs) : W p l e room_1 s m #[Value.ref b] below meth c H locs 47 9681 Q (F0 m 1190 ls []) := by
  obtain ⟨r, c', d', e4, e5, hr'⟩ := hst c0 d0 hr (xs (x3 + 1).toNatClampNeg)
  obtain ⟨hx, hb, hml, hown, hts, hK, hA, hz⟩ := id hc
  refine lv_aload_n hx hb dL_law_1190 rfl (lv_at hl 1 rfl) ?_
  refine lv_aload_n hx hb dL_law_1191 rfl (lv_at hl 0 rfl) ?_
  refine lv_iload_n hx hb dL_law_1192 rfl (lv_at hl 3 rfl) ?_
  refine lv_iconst (v := 1) hx hb dL_law_1193 (by decide) ?_
  refine lv_iadd hx hb dL_law_1194 ?_
  refine va_sld hx hb hX hbl hbA hG.2.2 h1 dL_law_1195 ?_
  refine y_viA (rest := []) hc hG (k4_duel ad c0 (xs (x3 + 1).toNatClampNeg) r c' e4) rfl rfl lL_154 ⟨rfl, rfl, by decide, by decide⟩ ⟨by decide, by decide⟩ rfl hl.1 (Nat.le_of_ble_eq_true rfl) rfl dL_law_1196 (fun H locs hG => ?_)
  refine lv_aload_n hx hb dL_law_1199 rfl (lv_at hl 2 rfl) ?_
  refine lv_aload_n hx hb dL_law_1200 rfl (lv_at hl 0 rfl) ?_
  refine lv_iload_n hx hb dL_law_1201 rfl (lv_at hl 3 rfl) ?_
  refine lv_iconst (v := 1) hx hb dL_law_1202 (by decide) ?_
  refine lv_iadd hx hb dL_law_1203 ?_
  refine va_sld hx hb hX hbl hbA hG.2.2 h1 dL_law_1204 ?_
  refine y_viB (rest := [.int r]) hc hG (k5_duel bd d0 (xs (x3 + 1).toNatClampNeg) r d' e5) rfl rfl lL_157 ⟨rfl, rfl, by decide, by decide⟩ ⟨by decide, by decide⟩ rfl hl.1 (Nat.le_of_ble_eq_true rfl) rfl dL_law_1205 (fun H locs hG => ?_)
  refine lv_icmp_eq (tgt := 1416) hx hb dL_law_1208 (by decide) (fun _ => ?_) (fun q => absurd rfl q)
  exact kk c' d' hr' ls H locs hl hG
set_option maxRecDepth 100000 in
set_option maxHeartbeats 4000000 in
theorem lc_35 {p : Program} {l : Launch} {e : Env} {s : State} {m : MethodId} {below : List Frame} {meth : Method} {c : Code} {Q : State → Prop} {D : va_G} {cI : ClassId} {tL b L : Nat} {xs : Nat → Int32} {Rel : CS → MS → Prop} (hst : Step_odds Rel) (hc : Cx p s m #[Value.ref b] c D cI tL (fun q => s.heap.size ≤ q) code 4 RL) (hX : va_X b L xs s s.heap) (hbl : b < s.heap.size) (hbA : ¬ s.heap.size ≤ b) (ad bd : Nat → Nat) (x3 : Int32) (h1 : vp_in (x3 + 1) L) (h2 : vp_in (x3 + 2) L) (h3 : vp_in (x3 + 3) L) (h4 : vp_in (x3 + 4) L) (h5 : vp_in (x3 + 5) L) (c0 : CS) (d0 : MS) (hr : Rel c0 d0)
    (kk : ∀ (c1 : CS) (d1 : MS), Rel c1 d1 → ∀ (ls : Array Slot) (H : Heap) (locs : List Loc), lv_has ls 4 [(0, .ref b), (1, .ref (ad 0)), (2, .ref (bd 0)), (3, .int x3)] → St D (fun q => s.heap.size ≤ q) s (w4 cI ad c1 ++ w5 cI bd d1) H locs → W p l e room_1 s m #[Value.ref b] below meth c H locs 47 9681 Q (F0 m 1416 ls []))
    (ls : Array Slot) (H : Heap) (locs : List Loc) (hl : lv_has ls 4 [(0, .ref b), (1, .ref (ad 0)), (2, .ref (bd 0)), (3, .int x3)]) (hG : St D (fun q => s.heap.size ≤ q) s (w4 cI ad c0 ++ w5 cI bd d0) H locs) : W p l e room_1 s m #[Value.ref b] below meth c H locs 47 9681 Q (F0 m 1213 ls []) := by
  obtain ⟨r, c', d', e4, e5, hr'⟩ := hst c0 d0 hr (xs (x3 + 1).toNatClampNeg) (xs (x3 + 2).toNatClampNeg)
  obtain ⟨hx, hb, hml, hown, hts, hK, hA, hz⟩ := id hc
  refine lv_aload_n hx hb dL_law_1213 rfl (lv_at hl 1 rfl) ?_
  refine lv_aload_n hx hb dL_law_1214 rfl (lv_at hl 0 rfl) ?_
  refine lv_iload_n hx hb dL_law_1215 rfl (lv_at hl 3 rfl) ?_
  refine lv_iconst (v := 1) hx hb dL_law_1216 (by decide) ?_
  refine lv_iadd hx hb dL_law_1217 ?_
  refine va_sld hx hb hX hbl hbA hG.2.2 h1 dL_law_1218 ?_
  refine lv_aload_n hx hb dL_law_1219 rfl (lv_at hl 0 rfl) ?_
  refine lv_iload_n hx hb dL_law_1220 rfl (lv_at hl 3 rfl) ?_
  refine lv_iconst (v := 2) hx hb dL_law_1221 (by decide) ?_
  refine lv_iadd hx hb dL_law_1222 ?_
  refine va_sld hx hb hX hbl hbA hG.2.2 h2 dL_law_1223 ?_
  refine y_viA (rest := []) hc hG (k4_odds ad c0 (xs (x3 + 1).toNatClampNeg) (xs (x3 + 2).toNatClampNeg) r c' e4) rfl rfl lL_158 ⟨rfl, rfl, by decide, by decide⟩ ⟨by decide, by decide⟩ rfl hl.1 (Nat.le_of_ble_eq_true rfl) rfl dL_law_1224 (fun H locs hG => ?_)
  refine lv_aload_n hx hb dL_law_1227 rfl (lv_at hl 2 rfl) ?_
  refine lv_aload_n hx hb dL_law_1228 rfl (lv_at hl 0 rfl) ?_
  refine lv_iload_n hx hb dL_law_1229 rfl (lv_at hl 3 rfl) ?_
  refine lv_iconst (v := 1) hx hb dL_law_1230 (by decide) ?_
  refine lv_iadd hx hb dL_law_1231 ?_
  refine va_sld hx hb hX hbl hbA hG.2.2 h1 dL_law_1232 ?_
  refine lv_aload_n hx hb dL_law_1233 rfl (lv_at hl 0 rfl) ?_
  refine lv_iload_n hx hb dL_law_1234 rfl (lv_at hl 3 rfl) ?_
  refine lv_iconst (v := 2) hx hb dL_law_1235 (by decide) ?_
  refine lv_iadd hx hb dL_law_1236 ?_
  refine va_sld hx hb hX hbl hbA hG.2.2 h2 dL_law_1237 ?_
  refine y_viB (rest := [.int r]) hc hG (k5_odds bd d0 (xs (x3 + 1).toNatClampNeg) (xs (x3 + 2).toNatClampNeg) r d' e5) rfl rfl lL_161 ⟨rfl, rfl, by decide, by decide⟩ ⟨by decide, by decide⟩ rfl hl.1 (Nat.le_of_ble_eq_true rfl) rfl dL_law_1238 (fun H locs hG => ?_)
  refine lv_icmp_eq (tgt := 1416) hx hb dL_law_1241 (by decide) (fun _ => ?_) (fun q => absurd rfl q)
  exact kk c' d' hr' ls H locs hl hG
set_option maxRecDepth 100000 in
set_option maxHeartbeats 4000000 in
theorem lc_36 {p : Program} {l : Launch} {e : Env} {s : State} {m : MethodId} {below : List Frame} {meth : Method} {c : Code} {Q : State → Prop} {D : va_G} {cI : ClassId} {tL b L : Nat} {xs : Nat → Int32} {Rel : CS → MS → Prop} (hst : Step_mid Rel) (hc : Cx p s m #[Value.ref b] c D cI tL (fun q => s.heap.size ≤ q) code 4 RL) (hX : va_X b L xs s s.heap) (hbl : b < s.heap.size) (hbA : ¬ s.heap.size ≤ b) (ad bd : Nat → Nat) (x3 : Int32) (h1 : vp_in (x3 + 1) L) (h2 : vp_in (x3 + 2) L) (h3 : vp_in (x3 + 3) L) (h4 : vp_in (x3 + 4) L) (h5 : vp_in (x3 + 5) L) (c0 : CS) (d0 : MS) (hr : Rel c0 d0)
    (kk : ∀ (c1 : CS) (d1 : MS), Rel c1 d1 → ∀ (ls : Array Slot) (H : Heap) (locs : List Loc), lv_has ls 4 [(0, .ref b), (1, .ref (ad 0)), (2, .ref (bd 0)), (3, .int x3)] → St D (fun q => s.heap.size ≤ q) s (w4 cI ad c1 ++ w5 cI bd d1) H locs → W p l e room_1 s m #[Value.ref b] below meth c H locs 47 9681 Q (F0 m 1416 ls []))
    (ls : Array Slot) (H : Heap) (locs : List Loc) (hl : lv_has ls 4 [(0, .ref b), (1, .ref (ad 0)), (2, .ref (bd 0)), (3, .int x3)]) (hG : St D (fun q => s.heap.size ≤ q) s (w4 cI ad c0 ++ w5 cI bd d0) H locs) : W p l e room_1 s m #[Value.ref b] below meth c H locs 47 9681 Q (F0 m 1246 ls []) := by
  obtain ⟨r, c', d', e4, e5, hr'⟩ := hst c0 d0 hr (xs (x3 + 1).toNatClampNeg)
  obtain ⟨hx, hb, hml, hown, hts, hK, hA, hz⟩ := id hc
  refine lv_aload_n hx hb dL_law_1246 rfl (lv_at hl 1 rfl) ?_
  refine lv_aload_n hx hb dL_law_1247 rfl (lv_at hl 0 rfl) ?_
  refine lv_iload_n hx hb dL_law_1248 rfl (lv_at hl 3 rfl) ?_
  refine lv_iconst (v := 1) hx hb dL_law_1249 (by decide) ?_
  refine lv_iadd hx hb dL_law_1250 ?_
  refine va_sld hx hb hX hbl hbA hG.2.2 h1 dL_law_1251 ?_
  refine y_viA (rest := []) hc hG (k4_mid ad c0 (xs (x3 + 1).toNatClampNeg) r c' e4) rfl rfl lL_162 ⟨rfl, rfl, by decide, by decide⟩ ⟨by decide, by decide⟩ rfl hl.1 (Nat.le_of_ble_eq_true rfl) rfl dL_law_1252 (fun H locs hG => ?_)
  refine lv_aload_n hx hb dL_law_1255 rfl (lv_at hl 2 rfl) ?_
  refine lv_aload_n hx hb dL_law_1256 rfl (lv_at hl 0 rfl) ?_
  refine lv_iload_n hx hb dL_law_1257 rfl (lv_at hl 3 rfl) ?_
  refine lv_iconst (v := 1) hx hb dL_law_1258 (by decide) ?_
  refine lv_iadd hx hb dL_law_1259 ?_
  refine va_sld hx hb hX hbl hbA hG.2.2 h1 dL_law_1260 ?_
  refine y_viB (rest := [.int r]) hc hG (k5_mid bd d0 (xs (x3 + 1).toNatClampNeg) r d' e5) rfl rfl lL_165 ⟨rfl, rfl, by decide, by decide⟩ ⟨by decide, by decide⟩ rfl hl.1 (Nat.le_of_ble_eq_true rfl) rfl dL_law_1261 (fun H locs hG => ?_)
  refine lv_icmp_eq (tgt := 1416) hx hb dL_law_1264 (by decide) (fun _ => ?_) (fun q => absurd rfl q)
  exact kk c' d' hr' ls H locs hl hG
set_option maxRecDepth 100000 in
set_option maxHeartbeats 4000000 in
theorem lc_37 {p : Program} {l : Launch} {e : Env} {s : State} {m : MethodId} {below : List Frame} {meth : Method} {c : Code} {Q : State → Prop} {D : va_G} {cI : ClassId} {tL b L : Nat} {xs : Nat → Int32} {Rel : CS → MS → Prop} (hst : Step_lots Rel) (hc : Cx p s m #[Value.ref b] c D cI tL (fun q => s.heap.size ≤ q) code 4 RL) (hX : va_X b L xs s s.heap) (hbl : b < s.heap.size) (hbA : ¬ s.heap.size ≤ b) (ad bd : Nat → Nat) (x3 : Int32) (h1 : vp_in (x3 + 1) L) (h2 : vp_in (x3 + 2) L) (h3 : vp_in (x3 + 3) L) (h4 : vp_in (x3 + 4) L) (h5 : vp_in (x3 + 5) L) (c0 : CS) (d0 : MS) (hr : Rel c0 d0)
    (kk : ∀ (c1 : CS) (d1 : MS), Rel c1 d1 → ∀ (ls : Array Slot) (H : Heap) (locs : List Loc), lv_has ls 4 [(0, .ref b), (1, .ref (ad 0)), (2, .ref (bd 0)), (3, .int x3)] → St D (fun q => s.heap.size ≤ q) s (w4 cI ad c1 ++ w5 cI bd d1) H locs → W p l e room_1 s m #[Value.ref b] below meth c H locs 47 9681 Q (F0 m 1416 ls []))
    (ls : Array Slot) (H : Heap) (locs : List Loc) (hl : lv_has ls 4 [(0, .ref b), (1, .ref (ad 0)), (2, .ref (bd 0)), (3, .int x3)]) (hG : St D (fun q => s.heap.size ≤ q) s (w4 cI ad c0 ++ w5 cI bd d0) H locs) : W p l e room_1 s m #[Value.ref b] below meth c H locs 47 9681 Q (F0 m 1269 ls []) := by
  obtain ⟨r, c', d', e4, e5, hr'⟩ := hst c0 d0 hr (xs (x3 + 1).toNatClampNeg) (xs (x3 + 2).toNatClampNeg)
  obtain ⟨hx, hb, hml, hown, hts, hK, hA, hz⟩ := id hc
  refine lv_aload_n hx hb dL_law_1269 rfl (lv_at hl 1 rfl) ?_
  refine lv_aload_n hx hb dL_law_1270 rfl (lv_at hl 0 rfl) ?_
  refine lv_iload_n hx hb dL_law_1271 rfl (lv_at hl 3 rfl) ?_
  refine lv_iconst (v := 1) hx hb dL_law_1272 (by decide) ?_
  refine lv_iadd hx hb dL_law_1273 ?_
  refine va_sld hx hb hX hbl hbA hG.2.2 h1 dL_law_1274 ?_
  refine lv_aload_n hx hb dL_law_1275 rfl (lv_at hl 0 rfl) ?_
  refine lv_iload_n hx hb dL_law_1276 rfl (lv_at hl 3 rfl) ?_
  refine lv_iconst (v := 2) hx hb dL_law_1277 (by decide) ?_
  refine lv_iadd hx hb dL_law_1278 ?_
  refine va_sld hx hb hX hbl hbA hG.2.2 h2 dL_law_1279 ?_
  refine y_viA (rest := []) hc hG (k4_lots ad c0 (xs (x3 + 1).toNatClampNeg) (xs (x3 + 2).toNatClampNeg) r c' e4) rfl rfl lL_166 ⟨rfl, rfl, by decide, by decide⟩ ⟨by decide, by decide⟩ rfl hl.1 (Nat.le_of_ble_eq_true rfl) rfl dL_law_1280 (fun H locs hG => ?_)
  refine lv_aload_n hx hb dL_law_1283 rfl (lv_at hl 2 rfl) ?_
  refine lv_aload_n hx hb dL_law_1284 rfl (lv_at hl 0 rfl) ?_
  refine lv_iload_n hx hb dL_law_1285 rfl (lv_at hl 3 rfl) ?_
  refine lv_iconst (v := 1) hx hb dL_law_1286 (by decide) ?_
  refine lv_iadd hx hb dL_law_1287 ?_
  refine va_sld hx hb hX hbl hbA hG.2.2 h1 dL_law_1288 ?_
  refine lv_aload_n hx hb dL_law_1289 rfl (lv_at hl 0 rfl) ?_
  refine lv_iload_n hx hb dL_law_1290 rfl (lv_at hl 3 rfl) ?_
  refine lv_iconst (v := 2) hx hb dL_law_1291 (by decide) ?_
  refine lv_iadd hx hb dL_law_1292 ?_
  refine va_sld hx hb hX hbl hbA hG.2.2 h2 dL_law_1293 ?_
  refine y_viB (rest := [.int r]) hc hG (k5_lots bd d0 (xs (x3 + 1).toNatClampNeg) (xs (x3 + 2).toNatClampNeg) r d' e5) rfl rfl lL_169 ⟨rfl, rfl, by decide, by decide⟩ ⟨by decide, by decide⟩ rfl hl.1 (Nat.le_of_ble_eq_true rfl) rfl dL_law_1294 (fun H locs hG => ?_)
  refine lv_icmp_eq (tgt := 1416) hx hb dL_law_1297 (by decide) (fun _ => ?_) (fun q => absurd rfl q)
  exact kk c' d' hr' ls H locs hl hG
set_option maxRecDepth 100000 in
set_option maxHeartbeats 4000000 in
theorem lc_38 {p : Program} {l : Launch} {e : Env} {s : State} {m : MethodId} {below : List Frame} {meth : Method} {c : Code} {Q : State → Prop} {D : va_G} {cI : ClassId} {tL b L : Nat} {xs : Nat → Int32} {Rel : CS → MS → Prop} (hst : Step_asked Rel) (hc : Cx p s m #[Value.ref b] c D cI tL (fun q => s.heap.size ≤ q) code 4 RL) (hX : va_X b L xs s s.heap) (hbl : b < s.heap.size) (hbA : ¬ s.heap.size ≤ b) (ad bd : Nat → Nat) (x3 : Int32) (h1 : vp_in (x3 + 1) L) (h2 : vp_in (x3 + 2) L) (h3 : vp_in (x3 + 3) L) (h4 : vp_in (x3 + 4) L) (h5 : vp_in (x3 + 5) L) (c0 : CS) (d0 : MS) (hr : Rel c0 d0)
    (kk : ∀ (c1 : CS) (d1 : MS), Rel c1 d1 → ∀ (ls : Array Slot) (H : Heap) (locs : List Loc), lv_has ls 4 [(0, .ref b), (1, .ref (ad 0)), (2, .ref (bd 0)), (3, .int x3)] → St D (fun q => s.heap.size ≤ q) s (w4 cI ad c1 ++ w5 cI bd d1) H locs → W p l e room_1 s m #[Value.ref b] below meth c H locs 47 9681 Q (F0 m 1416 ls []))
    (ls : Array Slot) (H : Heap) (locs : List Loc) (hl : lv_has ls 4 [(0, .ref b), (1, .ref (ad 0)), (2, .ref (bd 0)), (3, .int x3)]) (hG : St D (fun q => s.heap.size ≤ q) s (w4 cI ad c0 ++ w5 cI bd d0) H locs) : W p l e room_1 s m #[Value.ref b] below meth c H locs 47 9681 Q (F0 m 1302 ls []) := by
  obtain ⟨r, c', d', e4, e5, hr'⟩ := hst c0 d0 hr
  obtain ⟨hx, hb, hml, hown, hts, hK, hA, hz⟩ := id hc
  refine lv_aload_n hx hb dL_law_1302 rfl (lv_at hl 1 rfl) ?_
  refine y_viA (rest := []) hc hG (k4_asked ad c0  r c' e4) rfl rfl lL_170 ⟨rfl, rfl, by decide, by decide⟩ ⟨by decide, by decide⟩ rfl hl.1 (Nat.le_of_ble_eq_true rfl) rfl dL_law_1303 (fun H locs hG => ?_)
  refine lv_aload_n hx hb dL_law_1306 rfl (lv_at hl 2 rfl) ?_
  refine y_viB (rest := [.int r]) hc hG (k5_asked bd d0  r d' e5) rfl rfl lL_173 ⟨rfl, rfl, by decide, by decide⟩ ⟨by decide, by decide⟩ rfl hl.1 (Nat.le_of_ble_eq_true rfl) rfl dL_law_1307 (fun H locs hG => ?_)
  refine lv_icmp_eq (tgt := 1416) hx hb dL_law_1310 (by decide) (fun _ => ?_) (fun q => absurd rfl q)
  exact kk c' d' hr' ls H locs hl hG
set_option maxRecDepth 100000 in
set_option maxHeartbeats 4000000 in
theorem lc_39 {p : Program} {l : Launch} {e : Env} {s : State} {m : MethodId} {below : List Frame} {meth : Method} {c : Code} {Q : State → Prop} {D : va_G} {cI : ClassId} {tL b L : Nat} {xs : Nat → Int32} {Rel : CS → MS → Prop} (hst : Step_upper Rel) (hc : Cx p s m #[Value.ref b] c D cI tL (fun q => s.heap.size ≤ q) code 4 RL) (hX : va_X b L xs s s.heap) (hbl : b < s.heap.size) (hbA : ¬ s.heap.size ≤ b) (ad bd : Nat → Nat) (x3 : Int32) (h1 : vp_in (x3 + 1) L) (h2 : vp_in (x3 + 2) L) (h3 : vp_in (x3 + 3) L) (h4 : vp_in (x3 + 4) L) (h5 : vp_in (x3 + 5) L) (c0 : CS) (d0 : MS) (hr : Rel c0 d0)
    (kk : ∀ (c1 : CS) (d1 : MS), Rel c1 d1 → ∀ (ls : Array Slot) (H : Heap) (locs : List Loc), lv_has ls 4 [(0, .ref b), (1, .ref (ad 0)), (2, .ref (bd 0)), (3, .int x3)] → St D (fun q => s.heap.size ≤ q) s (w4 cI ad c1 ++ w5 cI bd d1) H locs → W p l e room_1 s m #[Value.ref b] below meth c H locs 47 9681 Q (F0 m 1416 ls []))
    (ls : Array Slot) (H : Heap) (locs : List Loc) (hl : lv_has ls 4 [(0, .ref b), (1, .ref (ad 0)), (2, .ref (bd 0)), (3, .int x3)]) (hG : St D (fun q => s.heap.size ≤ q) s (w4 cI ad c0 ++ w5 cI bd d0) H locs) : W p l e room_1 s m #[Value.ref b] below meth c H locs 47 9681 Q (F0 m 1315 ls []) := by
  obtain ⟨r, c', d', e4, e5, hr'⟩ := hst c0 d0 hr
  obtain ⟨hx, hb, hml, hown, hts, hK, hA, hz⟩ := id hc
  refine lv_aload_n hx hb dL_law_1315 rfl (lv_at hl 1 rfl) ?_
  refine y_vlA (rest := []) hc hG (k4_upper ad c0  r c' e4) rfl rfl lL_174 ⟨rfl, rfl, by decide, by decide⟩ ⟨by decide, by decide⟩ rfl hl.1 (Nat.le_of_ble_eq_true rfl) rfl dL_law_1316 (fun H locs hG => ?_)
  refine lv_aload_n hx hb dL_law_1319 rfl (lv_at hl 2 rfl) ?_
  refine y_vlB (rest := [.long r]) hc hG (k5_upper bd d0  r d' e5) rfl rfl lL_178 ⟨rfl, rfl, by decide, by decide⟩ ⟨by decide, by decide⟩ rfl hl.1 (Nat.le_of_ble_eq_true rfl) rfl dL_law_1320 (fun H locs hG => ?_)
  refine W.lcmp hx hb dL_law_1323 ?_
  refine lv_if_eq (tgt := 1416) hx hb dL_law_1324 (by decide) (fun _ => ?_) (fun q => absurd (lcmp_self r) q)
  exact kk c' d' hr' ls H locs hl hG
set_option maxRecDepth 100000 in
set_option maxHeartbeats 4000000 in
theorem lc_40 {p : Program} {l : Launch} {e : Env} {s : State} {m : MethodId} {below : List Frame} {meth : Method} {c : Code} {Q : State → Prop} {D : va_G} {cI : ClassId} {tL b L : Nat} {xs : Nat → Int32} {Rel : CS → MS → Prop} (hst : Step_lower Rel) (hc : Cx p s m #[Value.ref b] c D cI tL (fun q => s.heap.size ≤ q) code 4 RL) (hX : va_X b L xs s s.heap) (hbl : b < s.heap.size) (hbA : ¬ s.heap.size ≤ b) (ad bd : Nat → Nat) (x3 : Int32) (h1 : vp_in (x3 + 1) L) (h2 : vp_in (x3 + 2) L) (h3 : vp_in (x3 + 3) L) (h4 : vp_in (x3 + 4) L) (h5 : vp_in (x3 + 5) L) (c0 : CS) (d0 : MS) (hr : Rel c0 d0)
    (kk : ∀ (c1 : CS) (d1 : MS), Rel c1 d1 → ∀ (ls : Array Slot) (H : Heap) (locs : List Loc), lv_has ls 4 [(0, .ref b), (1, .ref (ad 0)), (2, .ref (bd 0)), (3, .int x3)] → St D (fun q => s.heap.size ≤ q) s (w4 cI ad c1 ++ w5 cI bd d1) H locs → W p l e room_1 s m #[Value.ref b] below meth c H locs 47 9681 Q (F0 m 1416 ls []))
    (ls : Array Slot) (H : Heap) (locs : List Loc) (hl : lv_has ls 4 [(0, .ref b), (1, .ref (ad 0)), (2, .ref (bd 0)), (3, .int x3)]) (hG : St D (fun q => s.heap.size ≤ q) s (w4 cI ad c0 ++ w5 cI bd d0) H locs) : W p l e room_1 s m #[Value.ref b] below meth c H locs 47 9681 Q (F0 m 1329 ls []) := by
  obtain ⟨r, c', d', e4, e5, hr'⟩ := hst c0 d0 hr
  obtain ⟨hx, hb, hml, hown, hts, hK, hA, hz⟩ := id hc
  refine lv_aload_n hx hb dL_law_1329 rfl (lv_at hl 1 rfl) ?_
  refine y_vlA (rest := []) hc hG (k4_lower ad c0  r c' e4) rfl rfl lL_179 ⟨rfl, rfl, by decide, by decide⟩ ⟨by decide, by decide⟩ rfl hl.1 (Nat.le_of_ble_eq_true rfl) rfl dL_law_1330 (fun H locs hG => ?_)
  refine lv_aload_n hx hb dL_law_1333 rfl (lv_at hl 2 rfl) ?_
  refine y_vlB (rest := [.long r]) hc hG (k5_lower bd d0  r d' e5) rfl rfl lL_182 ⟨rfl, rfl, by decide, by decide⟩ ⟨by decide, by decide⟩ rfl hl.1 (Nat.le_of_ble_eq_true rfl) rfl dL_law_1334 (fun H locs hG => ?_)
  refine W.lcmp hx hb dL_law_1337 ?_
  refine lv_if_eq (tgt := 1416) hx hb dL_law_1338 (by decide) (fun _ => ?_) (fun q => absurd (lcmp_self r) q)
  exact kk c' d' hr' ls H locs hl hG
set_option maxRecDepth 100000 in
set_option maxHeartbeats 4000000 in
theorem lc_41 {p : Program} {l : Launch} {e : Env} {s : State} {m : MethodId} {below : List Frame} {meth : Method} {c : Code} {Q : State → Prop} {D : va_G} {cI : ClassId} {tL b L : Nat} {xs : Nat → Int32} {Rel : CS → MS → Prop} (hst : Step_count Rel) (hc : Cx p s m #[Value.ref b] c D cI tL (fun q => s.heap.size ≤ q) code 4 RL) (hX : va_X b L xs s s.heap) (hbl : b < s.heap.size) (hbA : ¬ s.heap.size ≤ b) (ad bd : Nat → Nat) (x3 : Int32) (h1 : vp_in (x3 + 1) L) (h2 : vp_in (x3 + 2) L) (h3 : vp_in (x3 + 3) L) (h4 : vp_in (x3 + 4) L) (h5 : vp_in (x3 + 5) L) (c0 : CS) (d0 : MS) (hr : Rel c0 d0)
    (kk : ∀ (c1 : CS) (d1 : MS), Rel c1 d1 → ∀ (ls : Array Slot) (H : Heap) (locs : List Loc), lv_has ls 4 [(0, .ref b), (1, .ref (ad 0)), (2, .ref (bd 0)), (3, .int x3)] → St D (fun q => s.heap.size ≤ q) s (w4 cI ad c1 ++ w5 cI bd d1) H locs → W p l e room_1 s m #[Value.ref b] below meth c H locs 47 9681 Q (F0 m 1416 ls []))
    (ls : Array Slot) (H : Heap) (locs : List Loc) (hl : lv_has ls 4 [(0, .ref b), (1, .ref (ad 0)), (2, .ref (bd 0)), (3, .int x3)]) (hG : St D (fun q => s.heap.size ≤ q) s (w4 cI ad c0 ++ w5 cI bd d0) H locs) : W p l e room_1 s m #[Value.ref b] below meth c H locs 47 9681 Q (F0 m 1343 ls []) := by
  obtain ⟨r, c', d', e4, e5, hr'⟩ := hst c0 d0 hr (xs (x3 + 1).toNatClampNeg)
  obtain ⟨hx, hb, hml, hown, hts, hK, hA, hz⟩ := id hc
  refine lv_aload_n hx hb dL_law_1343 rfl (lv_at hl 1 rfl) ?_
  refine lv_aload_n hx hb dL_law_1344 rfl (lv_at hl 0 rfl) ?_
  refine lv_iload_n hx hb dL_law_1345 rfl (lv_at hl 3 rfl) ?_
  refine lv_iconst (v := 1) hx hb dL_law_1346 (by decide) ?_
  refine lv_iadd hx hb dL_law_1347 ?_
  refine va_sld hx hb hX hbl hbA hG.2.2 h1 dL_law_1348 ?_
  refine y_viA (rest := []) hc hG (k4_count ad c0 (xs (x3 + 1).toNatClampNeg) r c' e4) rfl rfl lL_183 ⟨rfl, rfl, by decide, by decide⟩ ⟨by decide, by decide⟩ rfl hl.1 (Nat.le_of_ble_eq_true rfl) rfl dL_law_1349 (fun H locs hG => ?_)
  refine lv_aload_n hx hb dL_law_1352 rfl (lv_at hl 2 rfl) ?_
  refine lv_aload_n hx hb dL_law_1353 rfl (lv_at hl 0 rfl) ?_
  refine lv_iload_n hx hb dL_law_1354 rfl (lv_at hl 3 rfl) ?_
  refine lv_iconst (v := 1) hx hb dL_law_1355 (by decide) ?_
  refine lv_iadd hx hb dL_law_1356 ?_
  refine va_sld hx hb hX hbl hbA hG.2.2 h1 dL_law_1357 ?_
  refine y_viB (rest := [.int r]) hc hG (k5_count bd d0 (xs (x3 + 1).toNatClampNeg) r d' e5) rfl rfl lL_186 ⟨rfl, rfl, by decide, by decide⟩ ⟨by decide, by decide⟩ rfl hl.1 (Nat.le_of_ble_eq_true rfl) rfl dL_law_1358 (fun H locs hG => ?_)
  refine lv_icmp_eq (tgt := 1416) hx hb dL_law_1361 (by decide) (fun _ => ?_) (fun q => absurd rfl q)
  exact kk c' d' hr' ls H locs hl hG
set_option maxRecDepth 100000 in
set_option maxHeartbeats 4000000 in
theorem lc_42 {p : Program} {l : Launch} {e : Env} {s : State} {m : MethodId} {below : List Frame} {meth : Method} {c : Code} {Q : State → Prop} {D : va_G} {cI : ClassId} {tL b L : Nat} {xs : Nat → Int32} {Rel : CS → MS → Prop} (hst : Step_finding Rel) (hc : Cx p s m #[Value.ref b] c D cI tL (fun q => s.heap.size ≤ q) code 4 RL) (hX : va_X b L xs s s.heap) (hbl : b < s.heap.size) (hbA : ¬ s.heap.size ≤ b) (ad bd : Nat → Nat) (x3 : Int32) (h1 : vp_in (x3 + 1) L) (h2 : vp_in (x3 + 2) L) (h3 : vp_in (x3 + 3) L) (h4 : vp_in (x3 + 4) L) (h5 : vp_in (x3 + 5) L) (c0 : CS) (d0 : MS) (hr : Rel c0 d0)
    (kk : ∀ (c1 : CS) (d1 : MS), Rel c1 d1 → ∀ (ls : Array Slot) (H : Heap) (locs : List Loc), lv_has ls 4 [(0, .ref b), (1, .ref (ad 0)), (2, .ref (bd 0)), (3, .int x3)] → St D (fun q => s.heap.size ≤ q) s (w4 cI ad c1 ++ w5 cI bd d1) H locs → W p l e room_1 s m #[Value.ref b] below meth c H locs 47 9681 Q (F0 m 1416 ls []))
    (ls : Array Slot) (H : Heap) (locs : List Loc) (hl : lv_has ls 4 [(0, .ref b), (1, .ref (ad 0)), (2, .ref (bd 0)), (3, .int x3)]) (hG : St D (fun q => s.heap.size ≤ q) s (w4 cI ad c0 ++ w5 cI bd d0) H locs) : W p l e room_1 s m #[Value.ref b] below meth c H locs 47 9681 Q (F0 m 1366 ls []) := by
  obtain ⟨r, c', d', e4, e5, hr'⟩ := hst c0 d0 hr
  obtain ⟨hx, hb, hml, hown, hts, hK, hA, hz⟩ := id hc
  refine lv_aload_n hx hb dL_law_1366 rfl (lv_at hl 1 rfl) ?_
  refine y_viA (rest := []) hc hG (k4_finding ad c0  r c' e4) rfl rfl lL_187 ⟨rfl, rfl, by decide, by decide⟩ ⟨by decide, by decide⟩ rfl hl.1 (Nat.le_of_ble_eq_true rfl) rfl dL_law_1367 (fun H locs hG => ?_)
  refine lv_aload_n hx hb dL_law_1370 rfl (lv_at hl 2 rfl) ?_
  refine y_viB (rest := [.int r]) hc hG (k5_finding bd d0  r d' e5) rfl rfl lL_190 ⟨rfl, rfl, by decide, by decide⟩ ⟨by decide, by decide⟩ rfl hl.1 (Nat.le_of_ble_eq_true rfl) rfl dL_law_1371 (fun H locs hG => ?_)
  refine lv_icmp_eq (tgt := 1416) hx hb dL_law_1374 (by decide) (fun _ => ?_) (fun q => absurd rfl q)
  exact kk c' d' hr' ls H locs hl hG
set_option maxRecDepth 100000 in
set_option maxHeartbeats 4000000 in
theorem lc_43 {p : Program} {l : Launch} {e : Env} {s : State} {m : MethodId} {below : List Frame} {meth : Method} {c : Code} {Q : State → Prop} {D : va_G} {cI : ClassId} {tL b L : Nat} {xs : Nat → Int32} {Rel : CS → MS → Prop} (hst : Step_findings Rel) (hc : Cx p s m #[Value.ref b] c D cI tL (fun q => s.heap.size ≤ q) code 4 RL) (hX : va_X b L xs s s.heap) (hbl : b < s.heap.size) (hbA : ¬ s.heap.size ≤ b) (ad bd : Nat → Nat) (x3 : Int32) (h1 : vp_in (x3 + 1) L) (h2 : vp_in (x3 + 2) L) (h3 : vp_in (x3 + 3) L) (h4 : vp_in (x3 + 4) L) (h5 : vp_in (x3 + 5) L) (c0 : CS) (d0 : MS) (hr : Rel c0 d0)
    (kk : ∀ (c1 : CS) (d1 : MS), Rel c1 d1 → ∀ (ls : Array Slot) (H : Heap) (locs : List Loc), lv_has ls 4 [(0, .ref b), (1, .ref (ad 0)), (2, .ref (bd 0)), (3, .int x3)] → St D (fun q => s.heap.size ≤ q) s (w4 cI ad c1 ++ w5 cI bd d1) H locs → W p l e room_1 s m #[Value.ref b] below meth c H locs 47 9681 Q (F0 m 1416 ls []))
    (ls : Array Slot) (H : Heap) (locs : List Loc) (hl : lv_has ls 4 [(0, .ref b), (1, .ref (ad 0)), (2, .ref (bd 0)), (3, .int x3)]) (hG : St D (fun q => s.heap.size ≤ q) s (w4 cI ad c0 ++ w5 cI bd d0) H locs) : W p l e room_1 s m #[Value.ref b] below meth c H locs 47 9681 Q (F0 m 1379 ls []) := by
  obtain ⟨r, c', d', e4, e5, hr'⟩ := hst c0 d0 hr (xs (x3 + 1).toNatClampNeg)
  obtain ⟨hx, hb, hml, hown, hts, hK, hA, hz⟩ := id hc
  refine lv_aload_n hx hb dL_law_1379 rfl (lv_at hl 1 rfl) ?_
  refine lv_aload_n hx hb dL_law_1380 rfl (lv_at hl 0 rfl) ?_
  refine lv_iload_n hx hb dL_law_1381 rfl (lv_at hl 3 rfl) ?_
  refine lv_iconst (v := 1) hx hb dL_law_1382 (by decide) ?_
  refine lv_iadd hx hb dL_law_1383 ?_
  refine va_sld hx hb hX hbl hbA hG.2.2 h1 dL_law_1384 ?_
  refine y_viA (rest := []) hc hG (k4_findings ad c0 (xs (x3 + 1).toNatClampNeg) r c' e4) rfl rfl lL_191 ⟨rfl, rfl, by decide, by decide⟩ ⟨by decide, by decide⟩ rfl hl.1 (Nat.le_of_ble_eq_true rfl) rfl dL_law_1385 (fun H locs hG => ?_)
  refine lv_aload_n hx hb dL_law_1388 rfl (lv_at hl 2 rfl) ?_
  refine lv_aload_n hx hb dL_law_1389 rfl (lv_at hl 0 rfl) ?_
  refine lv_iload_n hx hb dL_law_1390 rfl (lv_at hl 3 rfl) ?_
  refine lv_iconst (v := 1) hx hb dL_law_1391 (by decide) ?_
  refine lv_iadd hx hb dL_law_1392 ?_
  refine va_sld hx hb hX hbl hbA hG.2.2 h1 dL_law_1393 ?_
  refine y_viB (rest := [.int r]) hc hG (k5_findings bd d0 (xs (x3 + 1).toNatClampNeg) r d' e5) rfl rfl lL_194 ⟨rfl, rfl, by decide, by decide⟩ ⟨by decide, by decide⟩ rfl hl.1 (Nat.le_of_ble_eq_true rfl) rfl dL_law_1394 (fun H locs hG => ?_)
  refine lv_icmp_eq (tgt := 1416) hx hb dL_law_1397 (by decide) (fun _ => ?_) (fun q => absurd rfl q)
  exact kk c' d' hr' ls H locs hl hG
set_option maxRecDepth 100000 in
set_option maxHeartbeats 4000000 in
theorem lc_44 {p : Program} {l : Launch} {e : Env} {s : State} {m : MethodId} {below : List Frame} {meth : Method} {c : Code} {Q : State → Prop} {D : va_G} {cI : ClassId} {tL b L : Nat} {xs : Nat → Int32} {Rel : CS → MS → Prop} (hst : Step_digest Rel) (hc : Cx p s m #[Value.ref b] c D cI tL (fun q => s.heap.size ≤ q) code 4 RL) (hX : va_X b L xs s s.heap) (hbl : b < s.heap.size) (hbA : ¬ s.heap.size ≤ b) (ad bd : Nat → Nat) (x3 : Int32) (h1 : vp_in (x3 + 1) L) (h2 : vp_in (x3 + 2) L) (h3 : vp_in (x3 + 3) L) (h4 : vp_in (x3 + 4) L) (h5 : vp_in (x3 + 5) L) (c0 : CS) (d0 : MS) (hr : Rel c0 d0)
    (kk : ∀ (c1 : CS) (d1 : MS), Rel c1 d1 → ∀ (ls : Array Slot) (H : Heap) (locs : List Loc), lv_has ls 4 [(0, .ref b), (1, .ref (ad 0)), (2, .ref (bd 0)), (3, .int x3)] → St D (fun q => s.heap.size ≤ q) s (w4 cI ad c1 ++ w5 cI bd d1) H locs → W p l e room_1 s m #[Value.ref b] below meth c H locs 47 9681 Q (F0 m 1416 ls []))
    (ls : Array Slot) (H : Heap) (locs : List Loc) (hl : lv_has ls 4 [(0, .ref b), (1, .ref (ad 0)), (2, .ref (bd 0)), (3, .int x3)]) (hG : St D (fun q => s.heap.size ≤ q) s (w4 cI ad c0 ++ w5 cI bd d0) H locs) : W p l e room_1 s m #[Value.ref b] below meth c H locs 47 9681 Q (F0 m 1402 ls []) := by
  obtain ⟨r, c', d', e4, e5, hr'⟩ := hst c0 d0 hr
  obtain ⟨hx, hb, hml, hown, hts, hK, hA, hz⟩ := id hc
  refine lv_aload_n hx hb dL_law_1402 rfl (lv_at hl 1 rfl) ?_
  refine y_vlA (rest := []) hc hG (k4_digest ad c0  r c' e4) rfl rfl lL_195 ⟨rfl, rfl, by decide, by decide⟩ ⟨by decide, by decide⟩ rfl hl.1 (Nat.le_of_ble_eq_true rfl) rfl dL_law_1403 (fun H locs hG => ?_)
  refine lv_aload_n hx hb dL_law_1406 rfl (lv_at hl 2 rfl) ?_
  refine y_vlB (rest := [.long r]) hc hG (k5_digest bd d0  r d' e5) rfl rfl lL_198 ⟨rfl, rfl, by decide, by decide⟩ ⟨by decide, by decide⟩ rfl hl.1 (Nat.le_of_ble_eq_true rfl) rfl dL_law_1407 (fun H locs hG => ?_)
  refine W.lcmp hx hb dL_law_1410 ?_
  refine lv_if_eq (tgt := 1416) hx hb dL_law_1411 (by decide) (fun _ => ?_) (fun q => absurd (lcmp_self r) q)
  exact kk c' d' hr' ls H locs hl hG
