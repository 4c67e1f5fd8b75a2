/-! ===== constructors: contracts that make cells; rows at any count of cells and slots ===== -/
/-- a constructor: it makes mc cells of ms slots; the world behind it, by its addresses u -/
def Cn (l : Launch) (D : va_G) (cI : ClassId) (tL : Nat) (y : MethodName) (cc : ByteArray) (n : Nat) (rm : Room) (mc ms : Nat) (wi : va_W) (av : List Value) (post : (Nat → Nat) → Prop) (wo : (Nat → Nat) → va_W) : Prop :=
  ∀ sz : Nat, Met l y (Cond.code y cc n none :: wl) rm (va_Pc av (PreC D cI tL wi sz)) (va_Qv post (fun (u : Nat → Nat) t => va_P D vwCl (wo u) t.heap ∧ va_K D vwCl [(cI, .int)] t ∧ va_D (va_A wi sz) (wo u)) (va_A wi sz)) mc ms (va_A wi sz)
theorem Cn_of {l : Launch} {D : va_G} {cI : ClassId} {tL : Nat} {y : MethodName} {cc : ByteArray} {n : Nat} {rm : Room} {mc ms : Nat} {wi : va_W} {av : List Value} {post : (Nat → Nat) → Prop} {wo : (Nat → Nat) → va_W} {own : String} (hy : plainName y.cls = true) (hlen : (lg_sl av).length ≤ n) (how : y.cls = own ∧ y.name = "<init>")
    (body : ∀ (p : Program) (e : Env) (s : State) (m : MethodId) (below : List Frame) (meth : Method) (c : Code) (Q : State → Prop) (A : Nat → Prop) (AV : Array Value), Cx p s m AV c D cI tL A cc n own → meth.name = "<init>" →
      (∀ (u : Nat → Nat) (H : Heap) (locs : List Loc) (pc : Nat) (ls : Array Slot), post u → St D A s (wo u) H locs → decode cc pc = .ok (.return_, 1) → W p l e rm s m AV below meth c H locs mc ms Q (F0 m pc ls [])) →
      ∀ ls : Array Slot, lv_has ls n (lv_args 0 av) → St D A s wi s.heap [] → W p l e rm s m AV below meth c s.heap [] 0 0 Q (F0 m 0 ls [])) : Cn l D cI tL y cc n rm mc ms wi av post wo := by
  obtain ⟨how, hnm⟩ := how
  subst how
  intro sz
  refine Met.ofW (cc := cc) (maxL := n) (ret := none) hy rfl ?_
  intro p e s m args below meth c s₁ B hml hv
  obtain ⟨rfl, hsz, hP, hK, hD0, hz, hnn⟩ := hv
  subst hsz
  have hts : ∀ w ∈ wl, w.before av.toArray s = true := fun w hw => atoms_spec (ws := Cond.code y cc n none :: wl) B.pre w (List.mem_cons_of_mem _ hw)
  rw [lg_entry_eq]
  refine body p e s m below meth c _ (va_A wi s.heap.size) av.toArray ⟨B.exec, B.bytes, hml, findClass_of_methodNamed B.named, hts, hK, fun q h => Or.inr h, hz, hnn⟩ ((name_of_methodNamed B.named B.method).1.trans hnm) ?_ _ (lv_entry av hlen) ⟨hP, hD0.self, va_S.rf⟩
  intro u H locs pc ls hu hG hd
  exact W.vret B.exec B.bytes B.returns (fun t ht hW => ⟨⟨u, rfl, hu, by rw [ht]; exact hG.1, va_K.moved hW.alike hK, hG.2.1⟩, hG.2.2.F ht⟩) hG.2.2.2.2 hd (hlocks := B.notSynchronized)
section
variable {p : Program} {l : Launch} {e : Env} {R : Room} {s : State} {m : MethodId} {args : Array Value} {below : List Frame} {meth : Method} {c : Code} {H : Heap} {locs : List Loc} {Q : State → Prop}
variable {pc : Nat} {ls : Array Slot} {rest : List Value} {D : va_G} {cI : ClassId} {tL : Nat} {A : Nat → Prop} {cc : ByteArray} {nL : Nat} {own : String} {ws : va_W} {K N : Nat}
theorem y_obj (hc : Cx p s m args c D cI tL A cc nL own) {index : Nat} (hlink : Cond.methodLink own index objectInit ∈ wl ∧ Cond.instanceMethod objectInit ∈ wl ∧ Cond.code objectInit ⟨#[0xb1]⟩ 1 none ∈ wl) (hl : ls.size = nL) {a : Nat} (hdg : decode cc pc = .ok (.invokespecial index, 3)) (hR : 1 ≤ R.frames ∧ (rest.map fun v => v.category).sum + 12 ≤ R.locals)
    (kk : W p l e R s m args below meth c H locs K N Q (F0 m (pc + 3) ls rest)) : W p l e R s m args below meth c H locs K N Q (F0 m pc ls (.ref a :: rest)) :=
  W.objInit hc.1 hc.2.1 hc.2.2.2.1 (hc.2.2.2.2.1 _ hlink.1) (hc.2.2.2.2.1 _ hlink.2.1) (hc.2.2.2.2.1 _ hlink.2.2) rfl (hl.trans hc.2.2.1.symm) rfl hdg hR.1 (by show 2 * 0 + _ + 12 ≤ _; have := hR.2; omega) kk
theorem y_newa (hc : Cx p s m args c D cI tL A cc nL own) (hG : St D A s ws H locs) {n : Int32} (N' : Nat) (hn : ¬ n < 0 ∧ n.toNatClampNeg = N' ∧ N' * componentBytes .int ≤ 536870912) (hcs : K + 1 ≤ R.cells ∧ N + N' ≤ R.slots) (harr : Cond.arrayClass .int ∈ wl) (hdg : decode cc pc = .ok (.newarray .int, 2))
    (kk : ∀ (q : Nat) (H : Heap), St D A s (ws ++ [(q, .inl (cI, N', .inl (fun _ => 0)))]) H locs → W p l e R s m args below meth c H locs (K + 1) (N + N') Q (F0 m (pc + 2) ls (.ref q :: rest))) : W p l e R s m args below meth c H locs K N Q (F0 m pc ls (.int n :: rest)) := by
  refine va_newa hc.1 hc.2.1 (atype := .int) (hc.2.2.2.2.1 _ harr) rfl hc.2.2.2.2.2.1 hG.1 hG.2.1 hG.2.2 hc.2.2.2.2.2.2.1 (a0 := (N', .inl (fun _ => 0))) (fun cA => rfl) hn.1 hn.2.1 hn.2.2 hcs.1 hcs.2 hdg (fun q cA H1 hK1 hP1 hD1 hS1 => ?_)
  have e1 : s.vm.findClass ("[" ++ FieldType.int.toString) = some cA := (hK1.2 1 (cA, .int) rfl).2
  have e2 : s.vm.findClass ("[" ++ FieldType.int.toString) = some cI := (hc.2.2.2.2.2.1.2 0 (cI, .int) rfl).2
  have e3 : cA = cI := Option.some.inj (e1.symm.trans e2)
  subst e3
  exact kk q H1 ⟨hP1, hD1, hS1⟩
theorem y_new (hc : Cx p s m args c D cI tL A cc nL own) (hG : St D A s ws H locs) {ci index NF : Nat} {C : String} {T : u_T} (hin : vwCl[ci]? = some (C, T, NF) ∧ ∀ w ∈ u_ws C T NF, w ∈ wl) (ty : Nat → FieldType) (hty : ∀ k, k < NF → parseFieldDescriptor (T k).2.2.1 = some (ty k)) (hlink : Cond.classLink own index C ∈ wl ∧ Cond.instantiable C NF ∈ wl ∧ Cond.initialized C ∈ wl) {fs : List Value} (hfs : ∀ j, j < NF → defaultValue (ty j) = vp_V fs j) (hcs : K + 1 ≤ R.cells ∧ N + NF ≤ R.slots) (hdg : decode cc pc = .ok (.new index, 3))
    (kk : ∀ (q : Nat) (H : Heap), St D A s (ws ++ [(q, .inr (ci, fs))]) H locs → W p l e R s m args below meth c H locs (K + 1) (N + NF) Q (F0 m (pc + 3) ls (.ref q :: rest))) : W p l e R s m args below meth c H locs K N Q (F0 m pc ls rest) :=
  va_new (D := D) hc.1 hc.2.1 hc.2.2.2.2.1 hin.2 ty hty hc.2.2.2.1 (hc.2.2.2.2.1 _ hlink.1) (hc.2.2.2.2.1 _ hlink.2.1) (hc.2.2.2.2.1 _ hlink.2.2) hc.2.2.2.2.2.1 hG.1 hG.2.1 hG.2.2 hc.2.2.2.2.2.2.1 hin.1 hfs hcs.1 hcs.2 hdg (fun q H1 hP1 hD1 hS1 => kk q H1 ⟨hP1, hD1, hS1⟩)
theorem y_get (hc : Cx p s m args c D cI tL A cc nL own) (hG : St D A s ws H locs) (q0 : Nat) {a ci : Nat} {fs : List Value} (he : ws[q0]? = some (a, .inr (ci, fs))) {C : String} {T : u_T} {NF : Nat} (hin : vwCl[ci]? = some (C, T, NF) ∧ ∀ w ∈ u_ws C T NF, w ∈ wl) (k : Nat) {index : Nat} (hlink : k < NF ∧ Cond.fieldLink own index (T k).1 (T k).2.1 (T k).2.2.1 ∈ wl) {v : Value} (hv : fs[k]? = some v) (hdg : decode cc pc = .ok (.getfield index, 3))
    (kk : W p l e R s m args below meth c H locs K N Q (F0 m (pc + 3) ls (v :: rest))) : W p l e R s m args below meth c H locs K N Q (F0 m pc ls (.ref a :: rest)) :=
  va_get (D := D) (ci := ci) (C := C) (T := T) (N := NF) hc.1 hc.2.1 hc.2.2.2.2.1 hin.2 hc.2.2.2.1 hc.2.2.2.2.2.1 hG.1 q0 he hin.1 k hlink.1 (hc.2.2.2.2.1 _ hlink.2) (fun _ h => h) hv hdg kk
theorem y_put (hc : Cx p s m args c D cI tL A cc nL own) (hG : St D A s ws H locs) (q0 : Nat) {a ci : Nat} {fs : List Value} (he : ws[q0]? = some (a, .inr (ci, fs))) {C : String} {T : u_T} {NF : Nat} (hin : vwCl[ci]? = some (C, T, NF) ∧ ∀ w ∈ u_ws C T NF, w ∈ wl) (ty0 : Nat → FieldType) (hty : ∀ k, k < NF → parseFieldDescriptor (T k).2.2.1 = some (ty0 k)) (hnm : ∀ a, a < NF → ∀ b, b < NF → a ≠ b → (T a).2.1 ≠ (T b).2.1) (k : Nat) {index : Nat} (hlink : k < NF ∧ Cond.fieldLink own index (T k).1 (T k).2.1 (T k).2.2.1 ∈ wl) (hfin : (T k).2.2.2 = false) {v : Value} (hn : narrow (ty0 k) v = v) (hfit : fits (ty0 k) v = true) (hl : k < fs.length) {ws' : va_W} (hw : ws.set q0 (a, .inr (ci, fs.set k v)) = ws') (hdg : decode cc pc = .ok (.putfield index, 3))
    (kk : ∀ (H : Heap) (locs : List Loc), St D A s ws' H locs → W p l e R s m args below meth c H locs K N Q (F0 m (pc + 3) ls rest)) : W p l e R s m args below meth c H locs K N Q (F0 m pc ls (v :: .ref a :: rest)) := by
  subst hw
  exact va_put (D := D) (ci := ci) (C := C) (T := T) (N := NF) hc.1 hc.2.1 hc.2.2.2.2.1 hin.2 ty0 hty hnm hc.2.2.2.1 hc.2.2.2.2.2.1 hG.1 hG.2.1 hG.2.2 q0 he hin.1 k hlink.1 (hc.2.2.2.2.1 _ hlink.2) (fun _ h => h) hfin (hty k hlink.1) hn hfit hl hdg (fun H1 locs1 hP hD hS => kk H1 locs1 ⟨hP, hD, hS⟩)
theorem y_putF (hc : Cx p s m args c D cI tL A cc nL own) (hin2 : meth.name = "<init>") (hG : St D A s ws H locs) (q0 : Nat) {a ci : Nat} {fs : List Value} (he : ws[q0]? = some (a, .inr (ci, fs))) {C : String} {T : u_T} {NF : Nat} (hin : vwCl[ci]? = some (C, T, NF) ∧ ∀ w ∈ u_ws C T NF, w ∈ wl) (ty0 : Nat → FieldType) (hty : ∀ k, k < NF → parseFieldDescriptor (T k).2.2.1 = some (ty0 k)) (hnm : ∀ a, a < NF → ∀ b, b < NF → a ≠ b → (T a).2.1 ≠ (T b).2.1) (k : Nat) {index : Nat} (hlink : k < NF ∧ Cond.fieldLink own index (T k).1 (T k).2.1 (T k).2.2.1 ∈ wl) (hfin : (T k).2.2.2 = true) (hdecl : (T k).1 = own) {v : Value} (hn : narrow (ty0 k) v = v) (hfit : fits (ty0 k) v = true) (hl : k < fs.length) {ws' : va_W} (hw : ws.set q0 (a, .inr (ci, fs.set k v)) = ws') (hdg : decode cc pc = .ok (.putfield index, 3))
    (kk : ∀ (H : Heap) (locs : List Loc), St D A s ws' H locs → W p l e R s m args below meth c H locs K N Q (F0 m (pc + 3) ls rest)) : W p l e R s m args below meth c H locs K N Q (F0 m pc ls (v :: .ref a :: rest)) := by
  subst hw
  exact va_putF (D := D) (ci := ci) (C := C) (T := T) (N := NF) hc.1 hc.2.1 hc.2.2.2.2.1 hin.2 ty0 hty hnm hc.2.2.2.1 hc.2.2.2.2.2.1 hG.1 hG.2.1 hG.2.2 q0 he hin.1 k hlink.1 (hc.2.2.2.2.1 _ hlink.2) (fun _ h => h) hfin hin2 hdecl (hty k hlink.1) hn hfit hl hdg (fun H1 locs1 hP hD hS => kk H1 locs1 ⟨hP, hD, hS⟩)
theorem y_ast (hc : Cx p s m args c D cI tL A cc nL own) (hG : St D A s ws H locs) (q0 : Nat) {a n : Nat} {f g : Nat → Int32} (ha : ws[q0]? = some (a, .inl (cI, n, .inl f))) {i x : Int32} (hv : ast n f i x = some g) {ws' : va_W} (hw : ws.set q0 (a, .inl (cI, n, .inl g)) = ws') (hdg : decode cc pc = .ok (.iastore, 1))
    (kk : ∀ (H : Heap) (locs : List Loc), St D A s ws' H locs → W p l e R s m args below meth c H locs K N Q (F0 m (pc + 1) ls rest)) : W p l e R s m args below meth c H locs K N Q (F0 m pc ls (.int x :: .int i :: .ref a :: rest)) := by
  subst hw
  unfold ast at hv
  split at hv
  · cases hv
  · next h =>
    cases hv
    exact va_iast hc.1 hc.2.1 hc.2.2.2.2.2.1 hG.1 hG.2.1 hG.2.2 q0 0 ha rfl h hdg (fun H1 locs1 hP hD hS => kk H1 locs1 ⟨hP, hD, hS⟩)
theorem y_alen (hc : Cx p s m args c D cI tL A cc nL own) (hG : St D A s ws H locs) (q0 : Nat) {a n : Nat} {f : Nat → Int32} (ha : ws[q0]? = some (a, .inl (cI, n, .inl f))) {v : Int32} (hv : Int32.ofNat n = v) (hdg : decode cc pc = .ok (.arraylength, 1))
    (kk : W p l e R s m args below meth c H locs K N Q (F0 m (pc + 1) ls (.int v :: rest))) : W p l e R s m args below meth c H locs K N Q (F0 m pc ls (.ref a :: rest)) :=
  va_alen hc.1 hc.2.1 hc.2.2.2.2.2.1 hG.1 q0 0 ha rfl hv hdg kk
theorem y_vv (hc : Cx p s m args c D cI tL A cc nL own) (hG : St D A s ws H locs) {y : MethodName} {bytes : ByteArray} {maxL : Nat} {rm : Room} {wi wo : va_W} {b : Nat} {As : List Value} (hM : Cv l D cI tL y bytes maxL rm wi (.ref b :: As) wo) (isC isR is2 : List Nat) {ws' : va_W} (hck : ckp ws.length wo.length isC isR is2 = true) (hC : pk ws isC = wi) (h2 : pk (pk ws isR ++ wo) is2 = ws')
    (q0 : Nat) {ci : Nat} {fs : List Value} (he : ws[q0]? = some (b, .inr (ci, fs))) {T : u_T} {NF : Nat} (hcl : vwCl[ci]? = some (y.cls, T, NF)) {index k : Nat} (hg : GoodIn wl (wsV own index y.cls y (Cond.code y bytes maxL none :: wl)) ∧ y.cls = y.cls ∧ y.cls ≠ "java/lang/invoke/MethodHandle" ∧ y.cls ≠ "java/lang/invoke/VarHandle" ∧ (parseMethodDescriptor y.desc).map (fun d => d.parameters.length) = some k) (hR : rm.cells = 0 ∧ rm.slots = 0 ∧ rm.frames + 1 ≤ R.frames ∧ 8 + (maxL + 11) + rm.locals ≤ R.locals) (hcs : K + 0 ≤ R.cells ∧ N + 0 ≤ R.slots) (hk : As.length = k) (hl : ls.size = nL) (hrm : (rest.map fun v => v.category).sum ≤ 8) {st : List Value} (hst : st = As.reverse ++ .ref b :: rest) (hdg : decode cc pc = .ok (.invokevirtual index, 3))
    (kk : ∀ (H : Heap) (locs : List Loc), St D A s ws' H locs → W p l e R s m args below meth c H locs K N Q (F0 m (pc + 3) ls rest)) : W p l e R s m args below meth c H locs K N Q (F0 m pc ls st) := by
  subst hst
  obtain ⟨hPc, hDc, eC, hj⟩ := x_pl hG hck hC h2
  have hFc := va_free (wc := wi) hG.2.1 hG.2.2 hc.2.2.2.2.2.2.1 isC eC
  refine va_callv (va_runV (As := As) (rest := rest) ⟨hc.1, hc.2.1, hc.2.2.1, hc.2.2.2.1, hc.2.2.2.2.1⟩ (hM H.size) (cwV k hc.2.2.2.2.1 hg.1 rfl hR.1 hR.2.1 hg.2 hR.2.2) ⟨PreC.blind, va_recv hc.2.2.2.2.2.1 hG.1 hcl he, fun U hU hW => ⟨rfl, x_pre hc hG hPc hDc hFc U hU hW⟩⟩ rfl hk hl rfl (lv_room hrm) hdg hcs) hG.2.2 (fun q _ h => hFc q h) hFc (fun u t H1 locs1 ht hvm hw hB hz1 hk1 hS => ?_)
  obtain ⟨hP1, hK1, hD1⟩ := hB
  rw [ht] at hP1
  exact kk H1 locs1 (hj H1 locs1 hk1 hFc hP1 hD1 hS)
/-- a constructor's call -/
theorem y_ci (hc : Cx p s m args c D cI tL A cc nL own) (hG : St D A s ws H locs) {y : MethodName} {bytes : ByteArray} {maxL mc ms : Nat} {rm : Room} {wi : va_W} {post : (Nat → Nat) → Prop} {wo : (Nat → Nat) → va_W} {b : Nat} {As : List Value} (hM : Cn l D cI tL y bytes maxL rm mc ms wi (.ref b :: As) post wo) (ko : Nat) (isC isR is2 : List Nat) {ws' : (Nat → Nat) → va_W} (hck : ckp ws.length ko isC isR is2 = true) (hko : ∀ u, (wo u).length = ko) (hC : pk ws isC = wi) (h2 : ∀ u, pk (pk ws isR ++ wo u) is2 = ws' u)
    {index k : Nat} (hg : Cond.methodLink own index y ∈ wl ∧ Cond.instanceMethod y ∈ wl ∧ Cond.initialized y.cls ∈ wl ∧ GoodIn wl (Cond.code y bytes maxL none :: wl) ∧ y.name = "<init>" ∧ y.cls ≠ "java/lang/invoke/MethodHandle" ∧ y.cls ≠ "java/lang/invoke/VarHandle" ∧ (parseMethodDescriptor y.desc).map (fun d => d.parameters.length) = some k) (hR : rm.cells = mc ∧ rm.slots = ms ∧ rm.frames + 1 ≤ R.frames ∧ 8 + (maxL + 11) + rm.locals ≤ R.locals) (hcs : K + mc ≤ R.cells ∧ N + ms ≤ R.slots) (hk : As.length = k) (hl : ls.size = nL) (hrm : (rest.map fun v => v.category).sum ≤ 8) {st : List Value} (hst : st = As.reverse ++ .ref b :: rest) (hdg : decode cc pc = .ok (.invokespecial index, 3))
    (kk : ∀ (u : Nat → Nat) (H : Heap) (locs : List Loc), post u → St D A s (ws' u) H locs → W p l e R s m args below meth c H locs (K + mc) (N + ms) Q (F0 m (pc + 3) ls rest)) : W p l e R s m args below meth c H locs K N Q (F0 m pc ls st) := by
  subst hst
  obtain ⟨g1, g2, g3, g4, g5, g6⟩ := hg
  have hpl : ∀ u, va_P D vwCl wi H ∧ va_D A wi ∧ (isC.map (fun i => ws[i]?) = wi.map some) ∧ ∀ (H1 : Heap) (locs1 : List Loc), (∀ q : Nat, q < H.size → ¬ va_A wi H.size q → H1[q]? = H[q]?) → (∀ q, va_A wi H.size q → A q) → va_P D vwCl (wo u) H1 → va_D (va_A wi H.size) (wo u) → va_S A s.heap H1 locs1 → St D A s (ws' u) H1 locs1 := fun u => x_pl hG (by rw [hko u]; exact hck) hC (h2 u)
  obtain ⟨hPc, hDc, eC, -⟩ := hpl (fun _ => 0)
  have hFc := va_free (wc := wi) hG.2.1 hG.2.2 hc.2.2.2.2.2.2.1 isC eC
  refine va_callv (va_runI (As := As) (rest := rest) ⟨hc.1, hc.2.1, hc.2.2.1, hc.2.2.2.1, hc.2.2.2.2.1⟩ (hM H.size) (cwI k hc.2.2.2.2.1 g4 rfl hR.1 hR.2.1 (hc.2.2.2.2.1 _ g3) (hc.2.2.2.2.1 _ g1) (hc.2.2.2.2.1 _ g2) g5 g6 hR.2.2) ⟨PreC.blind, fun U hU hW => ⟨rfl, x_pre hc hG hPc hDc hFc U hU hW⟩⟩ rfl hk hl rfl (lv_room hrm) hdg hcs) hG.2.2 (fun q _ h => hFc q h) hFc (fun u t H1 locs1 ht hvm hw hB hz1 hk1 hS => ?_)
  obtain ⟨hP1, hK1, hD1⟩ := hB
  rw [ht] at hP1
  exact kk u H1 locs1 hw ((hpl u).2.2.2 H1 locs1 hk1 hFc hP1 hD1 hS)
/-- a nest mate's private constructor -/
theorem y_ciN (hc : Cx p s m args c D cI tL A cc nL own) (hG : St D A s ws H locs) {y : MethodName} {bytes : ByteArray} {maxL mc ms : Nat} {rm : Room} {wi : va_W} {post : (Nat → Nat) → Prop} {wo : (Nat → Nat) → va_W} {b : Nat} {As : List Value} (hM : Cn l D cI tL y bytes maxL rm mc ms wi (.ref b :: As) post wo) (ko : Nat) (isC isR is2 : List Nat) {ws' : (Nat → Nat) → va_W} (hck : ckp ws.length ko isC isR is2 = true) (hko : ∀ u, (wo u).length = ko) (hC : pk ws isC = wi) (h2 : ∀ u, pk (pk ws isR ++ wo u) is2 = ws' u)
    {index k : Nat} (hg : (own, index, y) ∈ nestM ∧ Cond.instanceMethod y ∈ wl ∧ Cond.initialized y.cls ∈ wl ∧ GoodIn wl (Cond.code y bytes maxL none :: wl) ∧ y.name = "<init>" ∧ y.cls ≠ "java/lang/invoke/MethodHandle" ∧ y.cls ≠ "java/lang/invoke/VarHandle" ∧ (parseMethodDescriptor y.desc).map (fun d => d.parameters.length) = some k) (hR : rm.cells = mc ∧ rm.slots = ms ∧ rm.frames + 1 ≤ R.frames ∧ 8 + (maxL + 11) + rm.locals ≤ R.locals) (hcs : K + mc ≤ R.cells ∧ N + ms ≤ R.slots) (hk : As.length = k) (hl : ls.size = nL) (hrm : (rest.map fun v => v.category).sum ≤ 8) {st : List Value} (hst : st = As.reverse ++ .ref b :: rest) (hdg : decode cc pc = .ok (.invokespecial index, 3))
    (kk : ∀ (u : Nat → Nat) (H : Heap) (locs : List Loc), post u → St D A s (ws' u) H locs → W p l e R s m args below meth c H locs (K + mc) (N + ms) Q (F0 m (pc + 3) ls rest)) : W p l e R s m args below meth c H locs K N Q (F0 m pc ls st) := by
  subst hst
  obtain ⟨g1, g2, g3, g4, g5, g6⟩ := hg
  have hpl : ∀ u, va_P D vwCl wi H ∧ va_D A wi ∧ (isC.map (fun i => ws[i]?) = wi.map some) ∧ ∀ (H1 : Heap) (locs1 : List Loc), (∀ q : Nat, q < H.size → ¬ va_A wi H.size q → H1[q]? = H[q]?) → (∀ q, va_A wi H.size q → A q) → va_P D vwCl (wo u) H1 → va_D (va_A wi H.size) (wo u) → va_S A s.heap H1 locs1 → St D A s (ws' u) H1 locs1 := fun u => x_pl hG (by rw [hko u]; exact hck) hC (h2 u)
  obtain ⟨hPc, hDc, eC, -⟩ := hpl (fun _ => 0)
  have hFc := va_free (wc := wi) hG.2.1 hG.2.2 hc.2.2.2.2.2.2.1 isC eC
  refine va_callv (va_runIN (host := "PeelReadings") (As := As) (rest := rest) ⟨hc.1, hc.2.1, hc.2.2.1, hc.2.2.2.1, hc.2.2.2.2.1⟩ (hM H.size) ⟨va_cnB k hc.2.2.2.2.1 g4 rfl hR.1 hR.2.1 (hc.2.2.2.2.2.2.2.2.2 _ g1) (hc.2.2.2.2.1 _ g3) g6 hR.2.2, g5, hc.2.2.2.2.1 _ g2⟩ ⟨PreC.blind, fun U hU hW => ⟨rfl, x_pre hc hG hPc hDc hFc U hU hW⟩⟩ rfl hk hl rfl (lv_room hrm) hdg hcs) hG.2.2 (fun q _ h => hFc q h) hFc (fun u t H1 locs1 ht hvm hw hB hz1 hk1 hS => ?_)
  obtain ⟨hP1, hK1, hD1⟩ := hB
  rw [ht] at hP1
  exact kk u H1 locs1 hw ((hpl u).2.2.2 H1 locs1 hk1 hFc hP1 hD1 hS)
end
