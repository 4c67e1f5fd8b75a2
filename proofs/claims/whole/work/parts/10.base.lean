/-! ===== the base: one list of words for all methods; contracts whose answer is a pure function's; rows of the kit in that form ===== -/
def wl : List Cond := lw_tbl.filter goodWord
theorem wl_good : wl.all goodWord = true := List.all_eq_true.mpr fun w h => (List.mem_filter.mp h).2
theorem wl_in {w : Cond} (h : w ∈ wl) : w ∈ lw_tbl := (List.mem_filter.mp h).1
theorem wl_mem {w : Cond} (h : (decide (w ∈ lw_tbl) && goodWord w) = true) : w ∈ wl := by
  simp only [Bool.and_eq_true, decide_eq_true_eq] at h
  exact List.mem_filter.mpr h
theorem wl_at {w : Cond} (i : Nat) (h : lw_tbl[i]? = some w) (g : goodWord w = true) : w ∈ wl := List.mem_filter.mpr ⟨List.mem_of_getElem? h, g⟩
theorem wl_code {y : MethodName} {cc : ByteArray} {n : Nat} {r : Option FieldType} (h : Cond.code y cc n r ∈ wl) : GoodIn wl (Cond.code y cc n r :: wl) := by
  intro w hw
  have hm : w ∈ wl := by
    rcases List.mem_cons.mp hw with rfl | hw
    · exact h
    · exact hw
  exact ⟨hm, good_of_word (List.all_eq_true.mp wl_good w hm)⟩
theorem wl_V {own C : String} {idx : Nat} {y : MethodName} {cc : ByteArray} {n : Nat} {r : Option FieldType} (h1 : Cond.methodLink own idx y ∈ wl) (h2 : Cond.instanceMethod y ∈ wl) (h3 : Cond.selects C y y ∈ wl) (h4 : Cond.initialized C ∈ wl) (h : Cond.code y cc n r ∈ wl) : GoodIn wl (wsV own idx C y (Cond.code y cc n r :: wl)) := by
  intro w hw
  have hm : w ∈ wl := by
    rcases List.mem_append.mp hw with hw | hw
    · simp only [List.mem_cons, List.not_mem_nil, or_false] at hw
      rcases hw with rfl | rfl | rfl | rfl <;> assumption
    · exact (wl_code h w hw).1
  exact ⟨hm, good_of_word (List.all_eq_true.mp wl_good w hm)⟩
theorem wl_S {own : String} {idx : Nat} {y : MethodName} {cc : ByteArray} {n : Nat} {r : Option FieldType} (h1 : Cond.methodLink own idx y ∈ wl) (h2 : Cond.static y ∈ wl) (h4 : Cond.initialized y.cls ∈ wl) (h : Cond.code y cc n r ∈ wl) : GoodIn wl (va_wsS own idx y (Cond.code y cc n r :: wl)) := by
  intro w hw
  have hm : w ∈ wl := by
    rcases List.mem_append.mp hw with hw | hw
    · simp only [List.mem_cons, List.not_mem_nil, or_false] at hw
      rcases hw with rfl | rfl | rfl <;> assumption
    · exact (wl_code h w hw).1
  exact ⟨hm, good_of_word (List.all_eq_true.mp wl_good w hm)⟩
/-- the places of each line, as the class's own static row holds them -/
def lineP : Nat → Int32 := fun k => match k with
  | 0 => 15
  | 1 => 240
  | 2 => 3840
  | 3 => 61440
  | 4 => 4369
  | 5 => 8738
  | 6 => 17476
  | _ => 34952
def zz (tL : Nat) (A : Nat → Prop) (U : State) (H : Heap) : Prop := va_Z "PeelReadings$Slice" "LINE_PLACES" "[I" (.ref tL) A U H ∧ va_T .int tL 8 (fun j => .int (lineP j)) A U H
theorem zz.moved {tL : Nat} {A : Nat → Prop} {u U : State} {H : Heap} (hvm : u.vm.Alike U.vm) (h : zz tL A u H) : zz tL A U H := ⟨va_Z.moved hvm h.1, va_T.moved hvm h.2⟩
theorem zz.kept {tL : Nat} {A : Nat → Prop} {U : State} {H H1 : Heap} (h : zz tL A U H) (hq : ∀ a : Nat, a < H.size → ¬ A a → H1[a]? = H[a]?) : zz tL A U H1 := ⟨va_Z.kept h.1 hq, va_T.kept h.2 hq⟩
theorem zz.narrow {tL : Nat} {A B : Nat → Prop} {U : State} {H : Heap} (h : zz tL A U H) (hAB : ∀ q, B q → A q) : zz tL B U H := ⟨va_Z.narrow h.1 hAB, va_T.narrow h.2 hAB⟩
/-- the links to a nest mate's private members -/
def nestF : List (String × Nat × String × String × String) := [("PeelReadings$Reader", 48, "PeelReadings$Slice", "size", "I"), ("PeelReadings", 118, "PeelReadings$Slice", "size", "I"), ("PeelReadings$Reader", 42, "PeelReadings$Slice", "need", "I"), ("PeelReadings", 289, "PeelReadings$Slice", "need", "I"), ("PeelReadings", 152, "PeelReadings$Slice", "lifted", "I"), ("PeelReadings", 161, "PeelReadings$Slice", "licked", "I"), ("PeelReadings", 292, "PeelReadings$Slice", "morning", "I"), ("PeelReadings", 190, "PeelReadings$Slice", "tally", "I"), ("PeelReadings", 225, "PeelReadings$Sets", "count", "I"), ("PeelReadings", 232, "PeelReadings$Sets", "least", "I"), ("PeelReadings", 238, "PeelReadings$Sets", "inAll", "I"), ("PeelReadings", 235, "PeelReadings$Sets", "inSome", "I")]
def nestM : List (String × Nat × MethodName) := [("PeelReadings", 30, yX3_init), ("PeelReadings", 52, yX1_init), ("PeelReadings$Slice", 54, yX4_bit)]
def nn (U : State) : Prop := (∀ q ∈ nestF, va_Nw (.fieldLinkNest q.1 q.2.1 q.2.2.1 q.2.2.2.1 q.2.2.2.2 "PeelReadings") U) ∧ ∀ q ∈ nestM, va_Nw (.methodLinkNest q.1 q.2.1 q.2.2 "PeelReadings") U
theorem nn.warm {s U : State} (hW : s.WarmedH U.vm) (h : nn s) : nn U := ⟨fun q hq => va_Nw.warmF hW (h.1 q hq), fun q hq => va_Nw.warmM hW (h.2 q hq)⟩
theorem nn.same {u U : State} (e : u.vm = U.vm) (h : nn u) : nn U := ⟨fun q hq => va_Nw.same rfl e (h.1 q hq), fun q hq => va_Nw.same rfl e (h.2 q hq)⟩
/-- what stands in a method's body from its entry to its end -/
def Cx (p : Program) (s : State) (m : MethodId) (args : Array Value) (c : Code) (D : va_G) (cI : ClassId) (tL : Nat) (A : Nat → Prop) (cc : ByteArray) (nL : Nat) (own : String) : Prop :=
  p.tables.exec = Jvm.exec ∧ c.code = cc ∧ c.maxLocals = nL ∧ s.vm.findClass own = some m.cls ∧ (∀ w ∈ wl, w.before args s = true) ∧ va_K D vwCl [(cI, .int)] s ∧ (∀ q, s.heap.size ≤ q → A q) ∧ zz tL A s s.heap ∧ nn s
/-- the world now -/
def St (D : va_G) (A : Nat → Prop) (s : State) (ws : va_W) (H : Heap) (locs : List Loc) : Prop := va_P D vwCl ws H ∧ va_D A ws ∧ va_S A s.heap H locs
abbrev PreC (D : va_G) (cI : ClassId) (tL : Nat) (wi : va_W) (sz : Nat) : State → Prop := fun U => U.heap.size = sz ∧ va_P D vwCl wi U.heap ∧ va_K D vwCl [(cI, .int)] U ∧ va_D (fun _ => True) wi ∧ zz tL (va_A wi sz) U U.heap ∧ nn U
abbrev PosC (D : va_G) (cI : ClassId) (wi wo : va_W) (sz : Nat) : Unit → State → Prop := fun _ t => va_P D vwCl wo t.heap ∧ va_K D vwCl [(cI, .int)] t ∧ va_D (va_A wi sz) wo
/-- a method that answers the int r, and leaves the world wo -/
def Ci (l : Launch) (D : va_G) (cI : ClassId) (tL : Nat) (y : MethodName) (cc : ByteArray) (n : Nat) (ty : FieldType) (rm : Room) (wi : va_W) (av : List Value) (r : Int32) (wo : va_W) : Prop :=
  ∀ sz : Nat, Met l y (Cond.code y cc n (some ty) :: wl) rm (va_Pc av (PreC D cI tL wi sz)) (va_Qi (fun (r' : Int32) (_ : Unit) => r' = r) (PosC D cI wi wo sz) (va_A wi sz)) 0 0 (va_A wi sz)
def Cl (l : Launch) (D : va_G) (cI : ClassId) (tL : Nat) (y : MethodName) (cc : ByteArray) (n : Nat) (rm : Room) (wi : va_W) (av : List Value) (r : Int64) (wo : va_W) : Prop :=
  ∀ sz : Nat, Met l y (Cond.code y cc n (some .long) :: wl) rm (va_Pc av (PreC D cI tL wi sz)) (va_Ql (fun (r' : Int64) (_ : Unit) => r' = r) (PosC D cI wi wo sz) (va_A wi sz)) 0 0 (va_A wi sz)
def Cv (l : Launch) (D : va_G) (cI : ClassId) (tL : Nat) (y : MethodName) (cc : ByteArray) (n : Nat) (rm : Room) (wi : va_W) (av : List Value) (wo : va_W) : Prop :=
  ∀ sz : Nat, Met l y (Cond.code y cc n none :: wl) rm (va_Pc av (PreC D cI tL wi sz)) (va_Qv (fun (_ : Unit) => True) (PosC D cI wi wo sz) (va_A wi sz)) 0 0 (va_A wi sz)
theorem PreC.blind {D : va_G} {cI : ClassId} {tL : Nat} {wi : va_W} {sz : Nat} {av : List Value} : FrameBlind (va_Pc av (PreC D cI tL wi sz)) := by
  intro a U g mk q
  obtain ⟨q0, q1, qP, qK, qD, qz, qn⟩ := q
  exact ⟨q0, q1, qP, va_K.moved (u := U) (U := U.calling g mk a) (Vm.Alike.refl U.vm) qK, qD, zz.moved (u := U) (U := U.calling g mk a) (Vm.Alike.refl U.vm) qz, nn.same rfl qn⟩
section
variable {l : Launch} {D : va_G} {cI : ClassId} {tL : Nat} {y : MethodName} {cc : ByteArray} {n : Nat} {rm : Room} {wi wo : va_W} {av : List Value}
theorem Ci_of {ty : FieldType} {r : Int32} {own : String} (hy : plainName y.cls = true) (hlen : (lg_sl av).length ≤ n) (how : y.cls = own)
    (body : ∀ (p : Program) (e : Env) (s : State) (m : MethodId) (below : List Frame) (meth : Method) (c : Code) (Q : State → Prop) (A : Nat → Prop) (AV : Array Value), Cx p s m AV c D cI tL A cc n own →
      (∀ (H : Heap) (locs : List Loc) (pc : Nat) (ls : Array Slot), St D A s wo H locs → decode cc pc = .ok (.ireturn, 1) → narrow ty (.int r) = .int r → W p l e rm s m AV below meth c H locs 0 0 Q (F0 m pc ls [.int r])) →
      ∀ ls : Array Slot, lv_has ls n (lv_args 0 av) → St D A s wi s.heap [] → W p l e rm s m AV below meth c s.heap [] 0 0 Q (F0 m 0 ls [])) : Ci l D cI tL y cc n ty rm wi av r wo := by
  subst how
  intro sz
  refine Met.ofW (cc := cc) (maxL := n) (ret := some ty) hy rfl ?_
  intro p e s m args below meth c s₁ B hml hv
  obtain ⟨rfl, hsz, hP, hK, hD0, hz, hnn⟩ := hv
  subst hsz
  have hts : ∀ w ∈ wl, w.before av.toArray s = true := fun w hw => atoms_spec (ws := Cond.code y cc n (some ty) :: wl) B.pre w (List.mem_cons_of_mem _ hw)
  rw [lg_entry_eq]
  refine body p e s m below meth c _ (va_A wi s.heap.size) av.toArray ⟨B.exec, B.bytes, hml, findClass_of_methodNamed B.named, hts, hK, fun q h => Or.inr h, hz, hnn⟩ ?_ _ (lv_entry av hlen) ⟨hP, hD0.self, va_S.rf⟩
  intro H locs pc ls hG hd hn
  exact W.zret B.exec B.bytes B.returns hn (fun t ht hW => ⟨⟨r, (), rfl, rfl, by rw [ht]; exact hG.1, va_K.moved hW.alike hK, hG.2.1⟩, hG.2.2.F ht⟩) hG.2.2.2.2 hd (hlocks := B.notSynchronized)
theorem Cl_of {r : Int64} {own : String} (hy : plainName y.cls = true) (hlen : (lg_sl av).length ≤ n) (how : y.cls = own)
    (body : ∀ (p : Program) (e : Env) (s : State) (m : MethodId) (below : List Frame) (meth : Method) (c : Code) (Q : State → Prop) (A : Nat → Prop) (AV : Array Value), Cx p s m AV c D cI tL A cc n own →
      (∀ (H : Heap) (locs : List Loc) (pc : Nat) (ls : Array Slot), St D A s wo H locs → decode cc pc = .ok (.lreturn, 1) → W p l e rm s m AV below meth c H locs 0 0 Q (F0 m pc ls [.long r])) →
      ∀ ls : Array Slot, lv_has ls n (lv_args 0 av) → St D A s wi s.heap [] → W p l e rm s m AV below meth c s.heap [] 0 0 Q (F0 m 0 ls [])) : Cl l D cI tL y cc n rm wi av r wo := by
  subst how
  intro sz
  refine Met.ofW (cc := cc) (maxL := n) (ret := some .long) hy rfl ?_
  intro p e s m args below meth c s₁ B hml hv
  obtain ⟨rfl, hsz, hP, hK, hD0, hz, hnn⟩ := hv
  subst hsz
  have hts : ∀ w ∈ wl, w.before av.toArray s = true := fun w hw => atoms_spec (ws := Cond.code y cc n (some .long) :: wl) B.pre w (List.mem_cons_of_mem _ hw)
  rw [lg_entry_eq]
  refine body p e s m below meth c _ (va_A wi s.heap.size) av.toArray ⟨B.exec, B.bytes, hml, findClass_of_methodNamed B.named, hts, hK, fun q h => Or.inr h, hz, hnn⟩ ?_ _ (lv_entry av hlen) ⟨hP, hD0.self, va_S.rf⟩
  intro H locs pc ls hG hd
  exact W.lret B.exec B.bytes B.returns (fun t ht hW => ⟨⟨r, (), rfl, rfl, by rw [ht]; exact hG.1, va_K.moved hW.alike hK, hG.2.1⟩, hG.2.2.F ht⟩) hG.2.2.2.2 hd (hlocks := B.notSynchronized)
theorem Cv_of {own : String} (hy : plainName y.cls = true) (hlen : (lg_sl av).length ≤ n) (how : y.cls = own)
    (body : ∀ (p : Program) (e : Env) (s : State) (m : MethodId) (below : List Frame) (meth : Method) (c : Code) (Q : State → Prop) (A : Nat → Prop) (AV : Array Value), Cx p s m AV c D cI tL A cc n own →
      (∀ (H : Heap) (locs : List Loc) (pc : Nat) (ls : Array Slot), St D A s wo H locs → decode cc pc = .ok (.return_, 1) → W p l e rm s m AV below meth c H locs 0 0 Q (F0 m pc ls [])) →
      ∀ ls : Array Slot, lv_has ls n (lv_args 0 av) → St D A s wi s.heap [] → W p l e rm s m AV below meth c s.heap [] 0 0 Q (F0 m 0 ls [])) : Cv l D cI tL y cc n rm wi av wo := by
  subst how
  intro sz
  refine Met.ofW (cc := cc) (maxL := n) (ret := none) hy rfl ?_
  intro p e s m args below meth c s₁ B hml hv
  obtain ⟨rfl, hsz, hP, hK, hD0, hz, hnn⟩ := hv
  subst hsz
  have hts : ∀ w ∈ wl, w.before av.toArray s = true := fun w hw => atoms_spec (ws := Cond.code y cc n none :: wl) B.pre w (List.mem_cons_of_mem _ hw)
  rw [lg_entry_eq]
  refine body p e s m below meth c _ (va_A wi s.heap.size) av.toArray ⟨B.exec, B.bytes, hml, findClass_of_methodNamed B.named, hts, hK, fun q h => Or.inr h, hz, hnn⟩ ?_ _ (lv_entry av hlen) ⟨hP, hD0.self, va_S.rf⟩
  intro H locs pc ls hG hd
  exact W.vret B.exec B.bytes B.returns (fun t ht hW => ⟨⟨(), rfl, trivial, by rw [ht]; exact hG.1, va_K.moved hW.alike hK, hG.2.1⟩, hG.2.2.F ht⟩) hG.2.2.2.2 hd (hlocks := B.notSynchronized)
end
/-- a world's cells at these places -/
def pk (ws : va_W) (is : List Nat) : va_W := is.filterMap (fun i => ws[i]?)
theorem pk_map {ws : va_W} {is : List Nat} (h : is.all (fun i => decide (i < ws.length)) = true) : is.map (fun i => ws[i]?) = (pk ws is).map some := by
  induction is with
  | nil => rfl
  | cons i is ih =>
    simp only [List.all_cons, Bool.and_eq_true, decide_eq_true_eq] at h
    have hi : ws[i]? = some ws[i] := List.getElem?_eq_getElem h.1
    simp only [pk, List.map_cons, List.filterMap_cons, hi]
    exact congrArg _ (ih h.2)
/-- the places of a call: the callee's, the rest's, and where each cell of 'rest, then callee's' goes back -/
def ckp (n k : Nat) (isC isR is2 : List Nat) : Bool := isC.all (fun i => decide (i < n)) && isR.all (fun i => decide (i < n)) && is2.all (fun i => decide (i < isR.length + k)) && va_nd isC && va_nd isR && va_nd is2 && isR.all (fun i => !(isC.contains i))
theorem pk_len {ws : va_W} {is : List Nat} (h : is.all (fun i => decide (i < ws.length)) = true) : (pk ws is).length = is.length := by
  have := congrArg List.length (pk_map h)
  simpa using this.symm
section
variable {p : Program} {l : Launch} {e : Env} {R : Room} {s : State} {m : MethodId} {args : Array Value} {below : List Frame} {meth : Method} {c : Code} {H : Heap} {locs : List Loc} {Q : State → Prop}
variable {pc : Nat} {ls : Array Slot} {rest : List Value} {D : va_G} {cI : ClassId} {tL : Nat} {A : Nat → Prop} {cc : ByteArray} {nL : Nat} {own : String} {ws : va_W}
theorem x_get (hc : Cx p s m args c D cI tL A cc nL own) (hG : St D A s ws H locs) (q0 : Nat) {a ci : Nat} {fs : List Value} (he : ws[q0]? = some (a, .inr (ci, fs))) {C : String} {T : u_T} {N : Nat} (hin : vwCl[ci]? = some (C, T, N) ∧ ∀ w ∈ u_ws C T N, w ∈ wl) (k : Nat) {index : Nat} (hlink : k < N ∧ Cond.fieldLink own index (T k).1 (T k).2.1 (T k).2.2.1 ∈ wl) {v : Value} (hv : fs[k]? = some v) (hdg : decode cc pc = .ok (.getfield index, 3))
    (kk : W p l e R s m args below meth c H locs 0 0 Q (F0 m (pc + 3) ls (v :: rest))) : W p l e R s m args below meth c H locs 0 0 Q (F0 m pc ls (.ref a :: rest)) :=
  va_get (D := D) (ci := ci) (C := C) (T := T) (N := N) hc.1 hc.2.1 hc.2.2.2.2.1 hin.2 hc.2.2.2.1 hc.2.2.2.2.2.1 hG.1 q0 he hin.1 k hlink.1 (hc.2.2.2.2.1 _ hlink.2) (fun _ h => h) hv hdg kk
theorem x_put (hc : Cx p s m args c D cI tL A cc nL own) (hG : St D A s ws H locs) (q0 : Nat) {a ci : Nat} {fs : List Value} (he : ws[q0]? = some (a, .inr (ci, fs))) {C : String} {T : u_T} {N : Nat} (hin : vwCl[ci]? = some (C, T, N) ∧ ∀ w ∈ u_ws C T N, w ∈ wl) (ty0 : Nat → FieldType) (hty : ∀ k, k < N → parseFieldDescriptor (T k).2.2.1 = some (ty0 k)) (hnm : ∀ a, a < N → ∀ b, b < N → a ≠ b → (T a).2.1 ≠ (T b).2.1) (k : Nat) {index : Nat} (hlink : k < N ∧ Cond.fieldLink own index (T k).1 (T k).2.1 (T k).2.2.1 ∈ wl) (hfin : (T k).2.2.2 = false) {v : Value} (hn : narrow (ty0 k) v = v) (hfit : fits (ty0 k) v = true) (hl : k < fs.length) {ws' : va_W} (hw : ws.set q0 (a, .inr (ci, fs.set k v)) = ws') (hdg : decode cc pc = .ok (.putfield index, 3))
    (kk : ∀ (H : Heap) (locs : List Loc), St D A s ws' H locs → W p l e R s m args below meth c H locs 0 0 Q (F0 m (pc + 3) ls rest)) : W p l e R s m args below meth c H locs 0 0 Q (F0 m pc ls (v :: .ref a :: rest)) := by
  subst hw
  exact va_put (D := D) (ci := ci) (C := C) (T := T) (N := N) hc.1 hc.2.1 hc.2.2.2.2.1 hin.2 ty0 hty hnm hc.2.2.2.1 hc.2.2.2.2.2.1 hG.1 hG.2.1 hG.2.2 q0 he hin.1 k hlink.1 (hc.2.2.2.2.1 _ hlink.2) (fun _ h => h) hfin (hty k hlink.1) hn hfit hl hdg (fun H1 locs1 hP hD hS => kk H1 locs1 ⟨hP, hD, hS⟩)
theorem x_getN (hc : Cx p s m args c D cI tL A cc nL own) (hG : St D A s ws H locs) (q0 : Nat) {a ci : Nat} {fs : List Value} (he : ws[q0]? = some (a, .inr (ci, fs))) {C : String} {T : u_T} {N : Nat} (hin : vwCl[ci]? = some (C, T, N) ∧ ∀ w ∈ u_ws C T N, w ∈ wl) (k : Nat) {index : Nat} (hlink : k < N ∧ (own, index, (T k).1, (T k).2.1, (T k).2.2.1) ∈ nestF) {v : Value} (hv : fs[k]? = some v) (hdg : decode cc pc = .ok (.getfield index, 3))
    (kk : W p l e R s m args below meth c H locs 0 0 Q (F0 m (pc + 3) ls (v :: rest))) : W p l e R s m args below meth c H locs 0 0 Q (F0 m pc ls (.ref a :: rest)) :=
  va_getN (D := D) (ci := ci) (C := C) (T := T) (N := N) hc.1 hc.2.1 hc.2.2.2.2.1 hin.2 hc.2.2.2.1 hc.2.2.2.2.2.1 hG.1 q0 he hin.1 k hlink.1 (va_Nw.use rfl (hc.2.2.2.2.2.2.2.2.1 _ hlink.2)) (fun _ h => h) hv hdg kk
theorem x_putN (hc : Cx p s m args c D cI tL A cc nL own) (hG : St D A s ws H locs) (q0 : Nat) {a ci : Nat} {fs : List Value} (he : ws[q0]? = some (a, .inr (ci, fs))) {C : String} {T : u_T} {N : Nat} (hin : vwCl[ci]? = some (C, T, N) ∧ ∀ w ∈ u_ws C T N, w ∈ wl) (ty0 : Nat → FieldType) (hty : ∀ k, k < N → parseFieldDescriptor (T k).2.2.1 = some (ty0 k)) (hnm : ∀ a, a < N → ∀ b, b < N → a ≠ b → (T a).2.1 ≠ (T b).2.1) (k : Nat) {index : Nat} (hlink : k < N ∧ (own, index, (T k).1, (T k).2.1, (T k).2.2.1) ∈ nestF) (hfin : (T k).2.2.2 = false) {v : Value} (hn : narrow (ty0 k) v = v) (hfit : fits (ty0 k) v = true) (hl : k < fs.length) {ws' : va_W} (hw : ws.set q0 (a, .inr (ci, fs.set k v)) = ws') (hdg : decode cc pc = .ok (.putfield index, 3))
    (kk : ∀ (H : Heap) (locs : List Loc), St D A s ws' H locs → W p l e R s m args below meth c H locs 0 0 Q (F0 m (pc + 3) ls rest)) : W p l e R s m args below meth c H locs 0 0 Q (F0 m pc ls (v :: .ref a :: rest)) := by
  subst hw
  exact va_putN (D := D) (ci := ci) (C := C) (T := T) (N := N) hc.1 hc.2.1 hc.2.2.2.2.1 hin.2 ty0 hty hnm hc.2.2.2.1 hc.2.2.2.2.2.1 hG.1 hG.2.1 hG.2.2 q0 he hin.1 k hlink.1 (va_Nw.use rfl (hc.2.2.2.2.2.2.2.2.1 _ hlink.2)) (fun _ h => h) hfin (hty k hlink.1) hn hfit hl hdg (fun H1 locs1 hP hD hS => kk H1 locs1 ⟨hP, hD, hS⟩)
/-- an int of a row, where there is one -/
def ald (n : Nat) (f : Nat → Int32) (i : Int32) : Option Int32 := if i < 0 ∨ n ≤ i.toNatClampNeg then none else some (f i.toNatClampNeg)
def ast (n : Nat) (f : Nat → Int32) (i x : Int32) : Option (Nat → Int32) := if i < 0 ∨ n ≤ i.toNatClampNeg then none else some (upd f i.toNatClampNeg x)
theorem x_ald (hc : Cx p s m args c D cI tL A cc nL own) (hG : St D A s ws H locs) (q0 : Nat) {a n : Nat} {f : Nat → Int32} (ha : ws[q0]? = some (a, .inl (cI, n, .inl f))) {i v : Int32} (hv : ald n f i = some v) (hdg : decode cc pc = .ok (.iaload, 1))
    (kk : W p l e R s m args below meth c H locs 0 0 Q (F0 m (pc + 1) ls (.int v :: rest))) : W p l e R s m args below meth c H locs 0 0 Q (F0 m pc ls (.int i :: .ref a :: rest)) := by
  unfold ald at hv
  split at hv
  · cases hv
  · next h =>
    cases hv
    exact va_iald hc.1 hc.2.1 hc.2.2.2.2.2.1 hG.1 q0 0 ha rfl h hdg kk
theorem x_ast (hc : Cx p s m args c D cI tL A cc nL own) (hG : St D A s ws H locs) (q0 : Nat) {a n : Nat} {f g : Nat → Int32} (ha : ws[q0]? = some (a, .inl (cI, n, .inl f))) {i x : Int32} (hv : ast n f i x = some g) {ws' : va_W} (hw : ws.set q0 (a, .inl (cI, n, .inl g)) = ws') (hdg : decode cc pc = .ok (.iastore, 1))
    (kk : ∀ (H : Heap) (locs : List Loc), St D A s ws' H locs → W p l e R s m args below meth c H locs 0 0 Q (F0 m (pc + 1) ls rest)) : W p l e R s m args below meth c H locs 0 0 Q (F0 m pc ls (.int x :: .int i :: .ref a :: rest)) := by
  subst hw
  unfold ast at hv
  split at hv
  · cases hv
  · next h =>
    cases hv
    exact va_iast hc.1 hc.2.1 hc.2.2.2.2.2.1 hG.1 hG.2.1 hG.2.2 q0 0 ha rfl h hdg (fun H1 locs1 hP hD hS => kk H1 locs1 ⟨hP, hD, hS⟩)
theorem x_alen (hc : Cx p s m args c D cI tL A cc nL own) (hG : St D A s ws H locs) (q0 : Nat) {a n : Nat} {f : Nat → Int32} (ha : ws[q0]? = some (a, .inl (cI, n, .inl f))) (hdg : decode cc pc = .ok (.arraylength, 1))
    (kk : W p l e R s m args below meth c H locs 0 0 Q (F0 m (pc + 1) ls (.int (Int32.ofNat n) :: rest))) : W p l e R s m args below meth c H locs 0 0 Q (F0 m pc ls (.ref a :: rest)) :=
  va_alen hc.1 hc.2.1 hc.2.2.2.2.2.1 hG.1 q0 0 ha rfl rfl hdg kk
theorem x_gets (hc : Cx p s m args c D cI tL A cc nL own) (hG : St D A s ws H locs) {index : Nat} (hlink : Cond.fieldLink own index "PeelReadings$Slice" "LINE_PLACES" "[I" ∈ wl) (hdg : decode cc pc = .ok (.getstatic index, 3))
    (kk : W p l e R s m args below meth c H locs 0 0 Q (F0 m (pc + 3) ls (.ref tL :: rest))) : W p l e R s m args below meth c H locs 0 0 Q (F0 m pc ls rest) :=
  va_gets hc.1 hc.2.1 hc.2.2.2.2.2.2.2.1.1 hG.2.2 hc.2.2.2.1 (hc.2.2.2.2.1 _ hlink) (fun _ h => h) hdg kk
theorem x_sald (hc : Cx p s m args c D cI tL A cc nL own) (hG : St D A s ws H locs) {i v : Int32} (hv : ald 8 lineP i = some v) (hdg : decode cc pc = .ok (.iaload, 1))
    (kk : W p l e R s m args below meth c H locs 0 0 Q (F0 m (pc + 1) ls (.int v :: rest))) : W p l e R s m args below meth c H locs 0 0 Q (F0 m pc ls (.int i :: .ref tL :: rest)) := by
  unfold ald at hv
  split at hv
  · cases hv
  · next h =>
    cases hv
    exact va_ti hc.1 hc.2.1 hc.2.2.2.2.2.2.2.1.2 hG.2.2 h rfl hdg kk
/-- what every call needs of the places -/
theorem x_pl (hG : St D A s ws H locs) {wi wo ws' : va_W} {isC isR is2 : List Nat} (hck : ckp ws.length wo.length isC isR is2 = true) (hC : pk ws isC = wi) (h2 : pk (pk ws isR ++ wo) is2 = ws') :
    va_P D vwCl wi H ∧ va_D A wi ∧ (isC.map (fun i => ws[i]?) = wi.map some) ∧ ∀ (H1 : Heap) (locs1 : List Loc), (∀ q : Nat, q < H.size → ¬ va_A wi H.size q → H1[q]? = H[q]?) → (∀ q, va_A wi H.size q → A q) → va_P D vwCl wo H1 → va_D (va_A wi H.size) wo → va_S A s.heap H1 locs1 → St D A s ws' H1 locs1 := by
  subst hC; subst h2
  simp only [ckp, Bool.and_eq_true] at hck
  obtain ⟨⟨⟨⟨⟨⟨h1, h2⟩, h3⟩, h4⟩, h5⟩, h6⟩, h7⟩ := hck
  have e1 := pk_map h1
  have e2 := pk_map h2
  refine ⟨hG.1.sub isC rfl, hG.2.1.sub isC h4 e1, e1, fun H1 locs1 hk hF hP1 hD1 hS => ?_⟩
  obtain ⟨hP, hD⟩ := va_join hG.1 hG.2.1 isC isR e1 e2 h5 (fun i hi hc => by have := List.all_eq_true.mp h7 i hi; simp [hc] at this) hk hF hP1 hD1
  have e3 : is2.all (fun i => decide (i < (pk ws isR ++ wo).length)) = true := by rw [List.length_append, pk_len h2]; exact h3
  exact ⟨hP.sub is2 rfl, hD.sub is2 h6 (pk_map e3), hS⟩
theorem x_pre (hc : Cx p s m args c D cI tL A cc nL own) (hG : St D A s ws H locs) {wi : va_W} (hP : va_P D vwCl wi H) (hD : va_D A wi) (hF : ∀ q, va_A wi H.size q → A q) (U : State) (hU : U.heap = H) (hW : s.WarmedH U.vm) : PreC D cI tL wi H.size U := by
  refine ⟨by rw [hU], by rw [hU]; exact hP, va_K.moved hW.alike hc.2.2.2.2.2.1, hD.weaken (fun _ _ _ _ => trivial), ?_, nn.warm hW hc.2.2.2.2.2.2.2.2⟩
  rw [hU]
  exact zz.moved hW.alike ((hc.2.2.2.2.2.2.2.1.kept hG.2.2.2.1).narrow hF)
theorem x_vi (hc : Cx p s m args c D cI tL A cc nL own) (hG : St D A s ws H locs) {y : MethodName} {bytes : ByteArray} {maxL : Nat} {ty : FieldType} {rm : Room} {wi wo : va_W} {b : Nat} {As : List Value} {r : Int32} (hM : Ci l D cI tL y bytes maxL ty rm wi (.ref b :: As) r wo) (isC isR is2 : List Nat) {ws' : va_W} (hck : ckp ws.length wo.length isC isR is2 = true) (hC : pk ws isC = wi) (h2 : pk (pk ws isR ++ wo) is2 = ws')
    (q0 : Nat) {ci : Nat} {fs : List Value} (he : ws[q0]? = some (b, .inr (ci, fs))) {T : u_T} {N : Nat} (hcl : vwCl[ci]? = some (y.cls, T, N)) {index k : Nat} (hg : GoodIn wl (wsV own index y.cls y (Cond.code y bytes maxL (some ty) :: wl)) ∧ y.cls = y.cls ∧ y.cls ≠ "java/lang/invoke/MethodHandle" ∧ y.cls ≠ "java/lang/invoke/VarHandle" ∧ (parseMethodDescriptor y.desc).map (fun d => d.parameters.length) = some k) (hR : rm.cells = 0 ∧ rm.slots = 0 ∧ rm.frames + 1 ≤ R.frames ∧ 8 + (maxL + 11) + rm.locals ≤ R.locals) (hk : As.length = k) (hl : ls.size = nL) (hrm : (rest.map fun v => v.category).sum ≤ 8) {st : List Value} (hst : st = As.reverse ++ .ref b :: rest) (hdg : decode cc pc = .ok (.invokevirtual index, 3))
    (kk : ∀ (H : Heap) (locs : List Loc), St D A s ws' H locs → W p l e R s m args below meth c H locs 0 0 Q (F0 m (pc + 3) ls (.int r :: rest))) : W p l e R s m args below meth c H locs 0 0 Q (F0 m pc ls st) := by
  subst hst
  obtain ⟨hPc, hDc, eC, hj⟩ := x_pl hG hck hC h2
  have hFc := va_free (wc := wi) hG.2.1 hG.2.2 hc.2.2.2.2.2.2.1 isC eC
  refine va_calli (va_runV (As := As) (rest := rest) ⟨hc.1, hc.2.1, hc.2.2.1, hc.2.2.2.1, hc.2.2.2.2.1⟩ (hM H.size) (cwV k hc.2.2.2.2.1 hg.1 rfl hR.1 hR.2.1 hg.2 hR.2.2) ⟨PreC.blind, va_recv hc.2.2.2.2.2.1 hG.1 hcl he, fun U hU hW => ⟨rfl, x_pre hc hG hPc hDc hFc U hU hW⟩⟩ rfl hk hl rfl (lv_room hrm) hdg ⟨Nat.zero_le _, Nat.zero_le _⟩) hG.2.2 (fun q _ h => hFc q h) hFc (fun r1 u t H1 locs1 ht hvm hw hB hz1 hk1 hS => ?_)
  subst hw
  obtain ⟨hP1, hK1, hD1⟩ := hB
  rw [ht] at hP1
  exact kk H1 locs1 (hj H1 locs1 hk1 hFc hP1 hD1 hS)
theorem x_vl (hc : Cx p s m args c D cI tL A cc nL own) (hG : St D A s ws H locs) {y : MethodName} {bytes : ByteArray} {maxL : Nat} {rm : Room} {wi wo : va_W} {b : Nat} {As : List Value} {r : Int64} (hM : Cl l D cI tL y bytes maxL rm wi (.ref b :: As) r wo) (isC isR is2 : List Nat) {ws' : va_W} (hck : ckp ws.length wo.length isC isR is2 = true) (hC : pk ws isC = wi) (h2 : pk (pk ws isR ++ wo) is2 = ws')
    (q0 : Nat) {ci : Nat} {fs : List Value} (he : ws[q0]? = some (b, .inr (ci, fs))) {T : u_T} {N : Nat} (hcl : vwCl[ci]? = some (y.cls, T, N)) {index k : Nat} (hg : GoodIn wl (wsV own index y.cls y (Cond.code y bytes maxL (some .long) :: wl)) ∧ y.cls = y.cls ∧ y.cls ≠ "java/lang/invoke/MethodHandle" ∧ y.cls ≠ "java/lang/invoke/VarHandle" ∧ (parseMethodDescriptor y.desc).map (fun d => d.parameters.length) = some k) (hR : rm.cells = 0 ∧ rm.slots = 0 ∧ rm.frames + 1 ≤ R.frames ∧ 8 + (maxL + 11) + rm.locals ≤ R.locals) (hk : As.length = k) (hl : ls.size = nL) (hrm : (rest.map fun v => v.category).sum ≤ 8) {st : List Value} (hst : st = As.reverse ++ .ref b :: rest) (hdg : decode cc pc = .ok (.invokevirtual index, 3))
    (kk : ∀ (H : Heap) (locs : List Loc), St D A s ws' H locs → W p l e R s m args below meth c H locs 0 0 Q (F0 m (pc + 3) ls (.long r :: rest))) : W p l e R s m args below meth c H locs 0 0 Q (F0 m pc ls st) := by
  subst hst
  obtain ⟨hPc, hDc, eC, hj⟩ := x_pl hG hck hC h2
  have hFc := va_free (wc := wi) hG.2.1 hG.2.2 hc.2.2.2.2.2.2.1 isC eC
  refine va_calll (va_runV (As := As) (rest := rest) ⟨hc.1, hc.2.1, hc.2.2.1, hc.2.2.2.1, hc.2.2.2.2.1⟩ (hM H.size) (cwV k hc.2.2.2.2.1 hg.1 rfl hR.1 hR.2.1 hg.2 hR.2.2) ⟨PreC.blind, va_recv hc.2.2.2.2.2.1 hG.1 hcl he, fun U hU hW => ⟨rfl, x_pre hc hG hPc hDc hFc U hU hW⟩⟩ rfl hk hl rfl (lv_room hrm) hdg ⟨Nat.zero_le _, Nat.zero_le _⟩) hG.2.2 (fun q _ h => hFc q h) hFc (fun r1 u t H1 locs1 ht hvm hw hB hz1 hk1 hS => ?_)
  subst hw
  obtain ⟨hP1, hK1, hD1⟩ := hB
  rw [ht] at hP1
  exact kk H1 locs1 (hj H1 locs1 hk1 hFc hP1 hD1 hS)
theorem x_vv (hc : Cx p s m args c D cI tL A cc nL own) (hG : St D A s ws H locs) {y : MethodName} {bytes : ByteArray} {maxL : Nat} {rm : Room} {wi wo : va_W} {b : Nat} {As : List Value} (hM : Cv l D cI tL y bytes maxL rm wi (.ref b :: As) wo) (isC isR is2 : List Nat) {ws' : va_W} (hck : ckp ws.length wo.length isC isR is2 = true) (hC : pk ws isC = wi) (h2 : pk (pk ws isR ++ wo) is2 = ws')
    (q0 : Nat) {ci : Nat} {fs : List Value} (he : ws[q0]? = some (b, .inr (ci, fs))) {T : u_T} {N : Nat} (hcl : vwCl[ci]? = some (y.cls, T, N)) {index k : Nat} (hg : GoodIn wl (wsV own index y.cls y (Cond.code y bytes maxL none :: wl)) ∧ y.cls = y.cls ∧ y.cls ≠ "java/lang/invoke/MethodHandle" ∧ y.cls ≠ "java/lang/invoke/VarHandle" ∧ (parseMethodDescriptor y.desc).map (fun d => d.parameters.length) = some k) (hR : rm.cells = 0 ∧ rm.slots = 0 ∧ rm.frames + 1 ≤ R.frames ∧ 8 + (maxL + 11) + rm.locals ≤ R.locals) (hk : As.length = k) (hl : ls.size = nL) (hrm : (rest.map fun v => v.category).sum ≤ 8) {st : List Value} (hst : st = As.reverse ++ .ref b :: rest) (hdg : decode cc pc = .ok (.invokevirtual index, 3))
    (kk : ∀ (H : Heap) (locs : List Loc), St D A s ws' H locs → W p l e R s m args below meth c H locs 0 0 Q (F0 m (pc + 3) ls rest)) : W p l e R s m args below meth c H locs 0 0 Q (F0 m pc ls st) := by
  subst hst
  obtain ⟨hPc, hDc, eC, hj⟩ := x_pl hG hck hC h2
  have hFc := va_free (wc := wi) hG.2.1 hG.2.2 hc.2.2.2.2.2.2.1 isC eC
  refine va_callv (va_runV (As := As) (rest := rest) ⟨hc.1, hc.2.1, hc.2.2.1, hc.2.2.2.1, hc.2.2.2.2.1⟩ (hM H.size) (cwV k hc.2.2.2.2.1 hg.1 rfl hR.1 hR.2.1 hg.2 hR.2.2) ⟨PreC.blind, va_recv hc.2.2.2.2.2.1 hG.1 hcl he, fun U hU hW => ⟨rfl, x_pre hc hG hPc hDc hFc U hU hW⟩⟩ rfl hk hl rfl (lv_room hrm) hdg ⟨Nat.zero_le _, Nat.zero_le _⟩) hG.2.2 (fun q _ h => hFc q h) hFc (fun u t H1 locs1 ht hvm hw hB hz1 hk1 hS => ?_)
  obtain ⟨hP1, hK1, hD1⟩ := hB
  rw [ht] at hP1
  exact kk H1 locs1 (hj H1 locs1 hk1 hFc hP1 hD1 hS)
theorem x_si (hc : Cx p s m args c D cI tL A cc nL own) (hG : St D A s ws H locs) {y : MethodName} {bytes : ByteArray} {maxL : Nat} {ty : FieldType} {rm : Room} {wi wo : va_W} {As : List Value} {r : Int32} (hM : Ci l D cI tL y bytes maxL ty rm wi As r wo) (isC isR is2 : List Nat) {ws' : va_W} (hck : ckp ws.length wo.length isC isR is2 = true) (hC : pk ws isC = wi) (h2 : pk (pk ws isR ++ wo) is2 = ws')
    {index k : Nat} (hg : GoodIn wl (va_wsS own index y (Cond.code y bytes maxL (some ty) :: wl)) ∧ y.cls ≠ "java/lang/invoke/MethodHandle" ∧ y.cls ≠ "java/lang/invoke/VarHandle" ∧ (parseMethodDescriptor y.desc).map (fun d => d.parameters.length) = some k) (hR : rm.cells = 0 ∧ rm.slots = 0 ∧ rm.frames + 1 ≤ R.frames ∧ 8 + (maxL + 11) + rm.locals ≤ R.locals) (hk : As.length = k) (hl : ls.size = nL) (hrm : (rest.map fun v => v.category).sum ≤ 8) {st : List Value} (hst : st = As.reverse ++ rest) (hdg : decode cc pc = .ok (.invokestatic index, 3))
    (kk : ∀ (H : Heap) (locs : List Loc), St D A s ws' H locs → W p l e R s m args below meth c H locs 0 0 Q (F0 m (pc + 3) ls (.int r :: rest))) : W p l e R s m args below meth c H locs 0 0 Q (F0 m pc ls st) := by
  subst hst
  obtain ⟨hPc, hDc, eC, hj⟩ := x_pl hG hck hC h2
  have hFc := va_free (wc := wi) hG.2.1 hG.2.2 hc.2.2.2.2.2.2.1 isC eC
  refine va_calli (va_runS (As := As) (rest := rest) ⟨hc.1, hc.2.1, hc.2.2.1, hc.2.2.2.1, hc.2.2.2.2.1⟩ (hM H.size) (va_cwS k hc.2.2.2.2.1 hg.1 rfl hR.1 hR.2.1 hg.2 hR.2.2) ⟨PreC.blind, fun U hU hW => ⟨rfl, x_pre hc hG hPc hDc hFc U hU hW⟩⟩ rfl hk hl rfl (lv_room hrm) hdg ⟨Nat.zero_le _, Nat.zero_le _⟩) hG.2.2 (fun q _ h => hFc q h) hFc (fun r1 u t H1 locs1 ht hvm hw hB hz1 hk1 hS => ?_)
  subst hw
  obtain ⟨hP1, hK1, hD1⟩ := hB
  rw [ht] at hP1
  exact kk H1 locs1 (hj H1 locs1 hk1 hFc hP1 hD1 hS)
theorem x_sl (hc : Cx p s m args c D cI tL A cc nL own) (hG : St D A s ws H locs) {y : MethodName} {bytes : ByteArray} {maxL : Nat} {rm : Room} {wi wo : va_W} {As : List Value} {r : Int64} (hM : Cl l D cI tL y bytes maxL rm wi As r wo) (isC isR is2 : List Nat) {ws' : va_W} (hck : ckp ws.length wo.length isC isR is2 = true) (hC : pk ws isC = wi) (h2 : pk (pk ws isR ++ wo) is2 = ws')
    {index k : Nat} (hg : GoodIn wl (va_wsS own index y (Cond.code y bytes maxL (some .long) :: wl)) ∧ y.cls ≠ "java/lang/invoke/MethodHandle" ∧ y.cls ≠ "java/lang/invoke/VarHandle" ∧ (parseMethodDescriptor y.desc).map (fun d => d.parameters.length) = some k) (hR : rm.cells = 0 ∧ rm.slots = 0 ∧ rm.frames + 1 ≤ R.frames ∧ 8 + (maxL + 11) + rm.locals ≤ R.locals) (hk : As.length = k) (hl : ls.size = nL) (hrm : (rest.map fun v => v.category).sum ≤ 8) {st : List Value} (hst : st = As.reverse ++ rest) (hdg : decode cc pc = .ok (.invokestatic index, 3))
    (kk : ∀ (H : Heap) (locs : List Loc), St D A s ws' H locs → W p l e R s m args below meth c H locs 0 0 Q (F0 m (pc + 3) ls (.long r :: rest))) : W p l e R s m args below meth c H locs 0 0 Q (F0 m pc ls st) := by
  subst hst
  obtain ⟨hPc, hDc, eC, hj⟩ := x_pl hG hck hC h2
  have hFc := va_free (wc := wi) hG.2.1 hG.2.2 hc.2.2.2.2.2.2.1 isC eC
  refine va_calll (va_runS (As := As) (rest := rest) ⟨hc.1, hc.2.1, hc.2.2.1, hc.2.2.2.1, hc.2.2.2.2.1⟩ (hM H.size) (va_cwS k hc.2.2.2.2.1 hg.1 rfl hR.1 hR.2.1 hg.2 hR.2.2) ⟨PreC.blind, fun U hU hW => ⟨rfl, x_pre hc hG hPc hDc hFc U hU hW⟩⟩ rfl hk hl rfl (lv_room hrm) hdg ⟨Nat.zero_le _, Nat.zero_le _⟩) hG.2.2 (fun q _ h => hFc q h) hFc (fun r1 u t H1 locs1 ht hvm hw hB hz1 hk1 hS => ?_)
  subst hw
  obtain ⟨hP1, hK1, hD1⟩ := hB
  rw [ht] at hP1
  exact kk H1 locs1 (hj H1 locs1 hk1 hFc hP1 hD1 hS)
theorem x_sv (hc : Cx p s m args c D cI tL A cc nL own) (hG : St D A s ws H locs) {y : MethodName} {bytes : ByteArray} {maxL : Nat} {rm : Room} {wi wo : va_W} {As : List Value} (hM : Cv l D cI tL y bytes maxL rm wi As wo) (isC isR is2 : List Nat) {ws' : va_W} (hck : ckp ws.length wo.length isC isR is2 = true) (hC : pk ws isC = wi) (h2 : pk (pk ws isR ++ wo) is2 = ws')
    {index k : Nat} (hg : GoodIn wl (va_wsS own index y (Cond.code y bytes maxL none :: wl)) ∧ y.cls ≠ "java/lang/invoke/MethodHandle" ∧ y.cls ≠ "java/lang/invoke/VarHandle" ∧ (parseMethodDescriptor y.desc).map (fun d => d.parameters.length) = some k) (hR : rm.cells = 0 ∧ rm.slots = 0 ∧ rm.frames + 1 ≤ R.frames ∧ 8 + (maxL + 11) + rm.locals ≤ R.locals) (hk : As.length = k) (hl : ls.size = nL) (hrm : (rest.map fun v => v.category).sum ≤ 8) {st : List Value} (hst : st = As.reverse ++ rest) (hdg : decode cc pc = .ok (.invokestatic index, 3))
    (kk : ∀ (H : Heap) (locs : List Loc), St D A s ws' H locs → W p l e R s m args below meth c H locs 0 0 Q (F0 m (pc + 3) ls rest)) : W p l e R s m args below meth c H locs 0 0 Q (F0 m pc ls st) := by
  subst hst
  obtain ⟨hPc, hDc, eC, hj⟩ := x_pl hG hck hC h2
  have hFc := va_free (wc := wi) hG.2.1 hG.2.2 hc.2.2.2.2.2.2.1 isC eC
  refine va_callv (va_runS (As := As) (rest := rest) ⟨hc.1, hc.2.1, hc.2.2.1, hc.2.2.2.1, hc.2.2.2.2.1⟩ (hM H.size) (va_cwS k hc.2.2.2.2.1 hg.1 rfl hR.1 hR.2.1 hg.2 hR.2.2) ⟨PreC.blind, fun U hU hW => ⟨rfl, x_pre hc hG hPc hDc hFc U hU hW⟩⟩ rfl hk hl rfl (lv_room hrm) hdg ⟨Nat.zero_le _, Nat.zero_le _⟩) hG.2.2 (fun q _ h => hFc q h) hFc (fun u t H1 locs1 ht hvm hw hB hz1 hk1 hS => ?_)
  obtain ⟨hP1, hK1, hD1⟩ := hB
  rw [ht] at hP1
  exact kk H1 locs1 (hj H1 locs1 hk1 hFc hP1 hD1 hS)
/-- System.arraycopy within one row of ints -/
def acp (n0 : Nat) (f : Nat → Int32) (sp dp n : Int32) : Option (Nat → Int32) := if sp < 0 ∨ dp < 0 ∨ n < 0 ∨ n0 < sp.toNatClampNeg + n.toNatClampNeg ∨ n0 < dp.toNatClampNeg + n.toNatClampNeg then none else some (va_cpy f f sp.toNatClampNeg dp.toNatClampNeg n.toNatClampNeg)
theorem x_acp (hc : Cx p s m args c D cI tL A cc nL own) (hG : St D A s ws H locs) (q0 : Nat) {a n0 : Nat} {f g : Nat → Int32} (ha : ws[q0]? = some (a, .inl (cI, n0, .inl f))) {sp dp n : Int32} (hv : acp n0 f sp dp n = some g) {ws' : va_W} (hw : ws.set q0 (a, .inl (cI, n0, .inl g)) = ws') (hl : ls.size = nL) {index : Nat} (hlink : Cond.methodLink own index arraycopyName ∈ wl ∧ Cond.native arraycopyName ∈ wl ∧ Cond.static arraycopyName ∈ wl ∧ Cond.initialized "java/lang/System" ∈ wl) (hfr : 1 ≤ R.frames) (hlo : (rest.map fun v => v.category).sum + (nativeFrameWords "java/lang/System" "arraycopy" 5 + 11) ≤ R.locals) (hdg : decode cc pc = .ok (.invokestatic index, 3))
    (kk : ∀ (H : Heap) (locs : List Loc), St D A s ws' H locs → W p l e R s m args below meth c H locs 0 0 Q (F0 m (pc + 3) ls rest)) : W p l e R s m args below meth c H locs 0 0 Q (F0 m pc ls (.int n :: .int dp :: .ref a :: .int sp :: .ref a :: rest)) := by
  subst hw
  unfold acp at hv
  split at hv
  · cases hv
  · next h =>
    cases hv
    have hts := hc.2.2.2.2.1
    exact va_copyi hc.1 hc.2.1 (hc.2.2.1.trans hl.symm) hc.2.2.2.1 (hts _ hlink.1) (hts _ hlink.2.1) (hts _ hlink.2.2.1) (hts _ hlink.2.2.2) hc.2.2.2.2.2.1 hG.1 hG.2.1 hG.2.2 q0 q0 0 0 ha ha rfl rfl rfl (fun q => h (Or.inl q)) (fun q => h (Or.inr (Or.inl q))) (fun q => h (Or.inr (Or.inr (Or.inl q)))) (Nat.not_lt.mp fun q => h (Or.inr (Or.inr (Or.inr (Or.inl q))))) (Nat.not_lt.mp fun q => h (Or.inr (Or.inr (Or.inr (Or.inr q))))) (fun _ _ => rfl) hfr hlo hdg (fun H1 locs1 hP hD hS => kk H1 locs1 ⟨hP, hD, hS⟩)
theorem x_fr (hG : St D A s ws H locs) {H1 : Heap} {locs1 : List Loc} (hk : ∀ q : Nat, q < H.size → ¬ va_A [] H.size q → H1[q]? = H[q]?) (hS : va_S A s.heap H1 locs1) : St D A s ws H1 locs1 := by
  refine ⟨fun k q hq => ?_, hG.2.1, hS⟩
  have hat := hG.1 k q hq
  have hlt : q.1 < H.size := by
    obtain ⟨a, e | o⟩ := q
    · exact (Array.getElem?_eq_some_iff.mp hat).1
    · obtain ⟨r, h1, cell, g1, -⟩ := hat
      exact (Array.getElem?_eq_some_iff.mp g1).1
  refine va_at.kept hat (hk q.1 hlt ?_)
  intro h
  rcases h with ⟨k, e, h⟩ | h
  · simp at h
  · omega
theorem x_nil (hG : St D A s ws H locs) (hA : ∀ q, s.heap.size ≤ q → A q) : va_P D vwCl [] H ∧ va_D A [] ∧ ∀ q, va_A [] H.size q → A q := by
  refine ⟨fun k q h => by simp at h, ⟨fun i j p q h => by simp at h, fun k q h => by simp at h⟩, ?_⟩
  intro q h
  rcases h with ⟨k, e, h⟩ | h
  · simp at h
  · exact hA q (Nat.le_trans hG.2.2.1 h)
theorem x_si0 (hc : Cx p s m args c D cI tL A cc nL own) (hG : St D A s ws H locs) {y : MethodName} {bytes : ByteArray} {maxL : Nat} {rm : Room} {As : List Value} {ty : FieldType} {r : Int32} (hM : Ci l D cI tL y bytes maxL ty rm [] As r []) {index k : Nat} (hg : GoodIn wl (va_wsS own index y (Cond.code y bytes maxL (some ty) :: wl)) ∧ y.cls ≠ "java/lang/invoke/MethodHandle" ∧ y.cls ≠ "java/lang/invoke/VarHandle" ∧ (parseMethodDescriptor y.desc).map (fun d => d.parameters.length) = some k) (hR : rm.cells = 0 ∧ rm.slots = 0 ∧ rm.frames + 1 ≤ R.frames ∧ 8 + (maxL + 11) + rm.locals ≤ R.locals) (hk : As.length = k) (hl : ls.size = nL) (hrm : (rest.map fun v => v.category).sum ≤ 8) {st : List Value} (hst : st = As.reverse ++ rest) (hdg : decode cc pc = .ok (.invokestatic index, 3))
    (kk : ∀ (H : Heap) (locs : List Loc), St D A s ws H locs → W p l e R s m args below meth c H locs 0 0 Q (F0 m (pc + 3) ls (.int r :: rest))) : W p l e R s m args below meth c H locs 0 0 Q (F0 m pc ls st) := by
  subst hst
  obtain ⟨hPc, hDc, hFc⟩ := x_nil hG hc.2.2.2.2.2.2.1
  refine va_calli (va_runS (As := As) (rest := rest) ⟨hc.1, hc.2.1, hc.2.2.1, hc.2.2.2.1, hc.2.2.2.2.1⟩ (hM H.size) (va_cwS k hc.2.2.2.2.1 hg.1 rfl hR.1 hR.2.1 hg.2 hR.2.2) ⟨PreC.blind, fun U hU hW => ⟨rfl, x_pre hc hG hPc hDc hFc U hU hW⟩⟩ rfl hk hl rfl (lv_room hrm) hdg ⟨Nat.zero_le _, Nat.zero_le _⟩) hG.2.2 (fun q _ h => hFc q h) hFc (fun r1 u t H1 locs1 ht hvm hw hB hz1 hk1 hS => ?_)
  subst hw
  exact kk H1 locs1 (x_fr hG hk1 hS)
theorem x_siN0 (hc : Cx p s m args c D cI tL A cc nL own) (hG : St D A s ws H locs) {y : MethodName} {bytes : ByteArray} {maxL : Nat} {rm : Room} {As : List Value} {ty : FieldType} {r : Int32} (hM : Ci l D cI tL y bytes maxL ty rm [] As r []) {index k : Nat} (hg : ((own, index, y) ∈ nestM ∧ GoodIn wl (Cond.code y bytes maxL (some ty) :: wl) ∧ Cond.initialized y.cls ∈ wl ∧ Cond.static y ∈ wl) ∧ y.cls ≠ "java/lang/invoke/MethodHandle" ∧ y.cls ≠ "java/lang/invoke/VarHandle" ∧ (parseMethodDescriptor y.desc).map (fun d => d.parameters.length) = some k) (hR : rm.cells = 0 ∧ rm.slots = 0 ∧ rm.frames + 1 ≤ R.frames ∧ 8 + (maxL + 11) + rm.locals ≤ R.locals) (hk : As.length = k) (hl : ls.size = nL) (hrm : (rest.map fun v => v.category).sum ≤ 8) {st : List Value} (hst : st = As.reverse ++ rest) (hdg : decode cc pc = .ok (.invokestatic index, 3))
    (kk : ∀ (H : Heap) (locs : List Loc), St D A s ws H locs → W p l e R s m args below meth c H locs 0 0 Q (F0 m (pc + 3) ls (.int r :: rest))) : W p l e R s m args below meth c H locs 0 0 Q (F0 m pc ls st) := by
  subst hst
  obtain ⟨hPc, hDc, hFc⟩ := x_nil hG hc.2.2.2.2.2.2.1
  refine va_calli (va_runSN (host := "PeelReadings") (As := As) (rest := rest) ⟨hc.1, hc.2.1, hc.2.2.1, hc.2.2.2.1, hc.2.2.2.2.1⟩ (hM H.size) ⟨va_cnB k hc.2.2.2.2.1 hg.1.2.1 rfl hR.1 hR.2.1 (hc.2.2.2.2.2.2.2.2.2 _ hg.1.1) (hc.2.2.2.2.1 _ hg.1.2.2.1) hg.2 hR.2.2, hc.2.2.2.2.1 _ hg.1.2.2.2, trivial⟩ ⟨PreC.blind, fun U hU hW => ⟨rfl, x_pre hc hG hPc hDc hFc U hU hW⟩⟩ rfl hk hl rfl (lv_room hrm) hdg ⟨Nat.zero_le _, Nat.zero_le _⟩) hG.2.2 (fun q _ h => hFc q h) hFc (fun r1 u t H1 locs1 ht hvm hw hB hz1 hk1 hS => ?_)
  subst hw
  exact kk H1 locs1 (x_fr hG hk1 hS)
theorem x_sl0 (hc : Cx p s m args c D cI tL A cc nL own) (hG : St D A s ws H locs) {y : MethodName} {bytes : ByteArray} {maxL : Nat} {rm : Room} {As : List Value} {r : Int64} (hM : Cl l D cI tL y bytes maxL rm [] As r []) {index k : Nat} (hg : GoodIn wl (va_wsS own index y (Cond.code y bytes maxL (some .long) :: wl)) ∧ y.cls ≠ "java/lang/invoke/MethodHandle" ∧ y.cls ≠ "java/lang/invoke/VarHandle" ∧ (parseMethodDescriptor y.desc).map (fun d => d.parameters.length) = some k) (hR : rm.cells = 0 ∧ rm.slots = 0 ∧ rm.frames + 1 ≤ R.frames ∧ 8 + (maxL + 11) + rm.locals ≤ R.locals) (hk : As.length = k) (hl : ls.size = nL) (hrm : (rest.map fun v => v.category).sum ≤ 8) {st : List Value} (hst : st = As.reverse ++ rest) (hdg : decode cc pc = .ok (.invokestatic index, 3))
    (kk : ∀ (H : Heap) (locs : List Loc), St D A s ws H locs → W p l e R s m args below meth c H locs 0 0 Q (F0 m (pc + 3) ls (.long r :: rest))) : W p l e R s m args below meth c H locs 0 0 Q (F0 m pc ls st) := by
  subst hst
  obtain ⟨hPc, hDc, hFc⟩ := x_nil hG hc.2.2.2.2.2.2.1
  refine va_calll (va_runS (As := As) (rest := rest) ⟨hc.1, hc.2.1, hc.2.2.1, hc.2.2.2.1, hc.2.2.2.2.1⟩ (hM H.size) (va_cwS k hc.2.2.2.2.1 hg.1 rfl hR.1 hR.2.1 hg.2 hR.2.2) ⟨PreC.blind, fun U hU hW => ⟨rfl, x_pre hc hG hPc hDc hFc U hU hW⟩⟩ rfl hk hl rfl (lv_room hrm) hdg ⟨Nat.zero_le _, Nat.zero_le _⟩) hG.2.2 (fun q _ h => hFc q h) hFc (fun r1 u t H1 locs1 ht hvm hw hB hz1 hk1 hS => ?_)
  subst hw
  exact kk H1 locs1 (x_fr hG hk1 hS)
theorem x_sv0 (hc : Cx p s m args c D cI tL A cc nL own) (hG : St D A s ws H locs) {y : MethodName} {bytes : ByteArray} {maxL : Nat} {rm : Room} {As : List Value}  (hM : Cv l D cI tL y bytes maxL rm [] As []) {index k : Nat} (hg : GoodIn wl (va_wsS own index y (Cond.code y bytes maxL none :: wl)) ∧ y.cls ≠ "java/lang/invoke/MethodHandle" ∧ y.cls ≠ "java/lang/invoke/VarHandle" ∧ (parseMethodDescriptor y.desc).map (fun d => d.parameters.length) = some k) (hR : rm.cells = 0 ∧ rm.slots = 0 ∧ rm.frames + 1 ≤ R.frames ∧ 8 + (maxL + 11) + rm.locals ≤ R.locals) (hk : As.length = k) (hl : ls.size = nL) (hrm : (rest.map fun v => v.category).sum ≤ 8) {st : List Value} (hst : st = As.reverse ++ rest) (hdg : decode cc pc = .ok (.invokestatic index, 3))
    (kk : ∀ (H : Heap) (locs : List Loc), St D A s ws H locs → W p l e R s m args below meth c H locs 0 0 Q (F0 m (pc + 3) ls (rest))) : W p l e R s m args below meth c H locs 0 0 Q (F0 m pc ls st) := by
  subst hst
  obtain ⟨hPc, hDc, hFc⟩ := x_nil hG hc.2.2.2.2.2.2.1
  refine va_callv (va_runS (As := As) (rest := rest) ⟨hc.1, hc.2.1, hc.2.2.1, hc.2.2.2.1, hc.2.2.2.2.1⟩ (hM H.size) (va_cwS k hc.2.2.2.2.1 hg.1 rfl hR.1 hR.2.1 hg.2 hR.2.2) ⟨PreC.blind, fun U hU hW => ⟨rfl, x_pre hc hG hPc hDc hFc U hU hW⟩⟩ rfl hk hl rfl (lv_room hrm) hdg ⟨Nat.zero_le _, Nat.zero_le _⟩) hG.2.2 (fun q _ h => hFc q h) hFc (fun  u t H1 locs1 ht hvm hw hB hz1 hk1 hS => ?_)
  skip
  exact kk H1 locs1 (x_fr hG hk1 hS)
theorem x_swK {cc : ByteArray} (hexec : p.tables.exec = Jvm.exec) (hb : c.code = cc) {dflt lo hi : Int} {offs : Array Int} {len : Nat} {x k : Int32} {off : Int} {tgt : Nat} (hdg : decode cc pc = .ok (.tableswitch dflt lo hi offs, len)) (hk : x = k) (h1 : ¬ k.toInt < lo) (h2 : ¬ hi < k.toInt) (ho : offs[(k.toInt - lo).toNat]? = some off) (ht : (pc : Int) + off = (tgt : Int))
    (kk : W p l e R s m args below meth c H locs 0 0 Q (F0 m tgt ls rest)) : W p l e R s m args below meth c H locs 0 0 Q (F0 m pc ls (.int x :: rest)) := by
  subst hk
  exact lv_tableIn hexec hb hdg h1 h2 ho ht kk
theorem x_swD {cc : ByteArray} (hexec : p.tables.exec = Jvm.exec) (hb : c.code = cc) {dflt lo hi : Int} {offs : Array Int} {len : Nat} {x : Int32} {tgt : Nat} (hdg : decode cc pc = .ok (.tableswitch dflt lo hi offs, len)) (ks : List Int) (hs : offs.size = (hi - lo + 1).toNat ∧ (List.range offs.size).all (fun j => offs[j]? == some dflt || ks.contains (lo + j)) = true) (hne : ∀ k ∈ ks, ¬ x.toInt = k) (ht : (pc : Int) + dflt = (tgt : Int))
    (kk : W p l e R s m args below meth c H locs 0 0 Q (F0 m tgt ls rest)) : W p l e R s m args below meth c H locs 0 0 Q (F0 m pc ls (.int x :: rest)) := by
  by_cases h1 : x.toInt < lo
  · exact lv_tableOut hexec hb hdg (Or.inl h1) ht kk
  by_cases h2 : hi < x.toInt
  · exact lv_tableOut hexec hb hdg (Or.inr h2) ht kk
  have hlt : (x.toInt - lo).toNat < offs.size := by rw [hs.1]; omega
  have h3 := List.all_eq_true.mp hs.2 _ (List.mem_range.mpr hlt)
  rw [Bool.or_eq_true] at h3
  rcases h3 with h3 | h3
  · exact lv_tableIn hexec hb hdg h1 h2 (eq_of_beq h3) ht kk
  · rw [List.contains_iff_mem] at h3
    exact absurd (by omega) (hne _ h3)
theorem nb {v : Int32} (h : v &&& 1 = v) : narrow .boolean (.int v) = .int v := by
  show Value.int (v &&& 1) = _
  rw [h]
end
