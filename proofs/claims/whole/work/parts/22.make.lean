/-! making: the context with its counts of cells and slots; rows for newarray, new, final fields, constructors -/
def jXc (X : jX) (c s : Nat) : jX := (X.1, X.2.1, X.2.2.1, X.2.2.2.1, X.2.2.2.2.1, X.2.2.2.2.2.1, X.2.2.2.2.2.2.1, X.2.2.2.2.2.2.2.1, c, s, X.2.2.2.2.2.2.2.2.2.2.1, X.2.2.2.2.2.2.2.2.2.2.2.1, X.2.2.2.2.2.2.2.2.2.2.2.2)
theorem mO_N : Cond.methodLink rN 3 objectInit ∈ jG := jG_t1 16 rfl rfl
theorem mI_O : Cond.instanceMethod objectInit ∈ jG := jG_t1 17 rfl rfl
theorem mC_O : Cond.code objectInit ⟨#[0xb1]⟩ 1 none ∈ jG := jG_t1 18 rfl rfl
theorem mO_P : Cond.methodLink rP 3 objectInit ∈ jG := jG_t1 33 rfl rfl
theorem mO_W : Cond.methodLink rW 3 objectInit ∈ jG := jG_t1 100 rfl rfl
theorem mO_T : Cond.methodLink rT 3 objectInit ∈ jG := jG_t1 117 rfl rfl
theorem mO_B : Cond.methodLink rB 3 objectInit ∈ jG := jG_t1 186 rfl rfl
theorem mO_K : Cond.methodLink rK 3 objectInit ∈ jG := jG_t1 200 rfl rfl
theorem mO_M : Cond.methodLink rM 1 objectInit ∈ jG := jG_t3 89 rfl rfl
theorem jG_x {cw : Cond} {own : String} {idx : Nat} {y : MethodName} {cw' : Cond} (h1 : Cond.methodLink own idx y ∈ jG) (h2 : Cond.static y ∈ jG) (h4 : Cond.initialized y.cls ∈ jG) (h5 : cw' ∈ jG) : GoodIn (cw :: jG) (va_wsS own idx y (cw' :: jG)) := by
  have key : ∀ w ∈ jG, w ∈ cw :: jG ∧ ((w.onTables && w.keeps) = true ∨ ∃ ty, w = .arrayClass ty) := fun w h => ⟨List.mem_cons_of_mem _ h, jG_good h⟩
  intro w hw
  unfold va_wsS at hw
  simp only [List.cons_append, List.nil_append, List.mem_cons] at hw
  rcases hw with rfl | rfl | rfl | rfl | hw
  · exact key _ h1
  · exact key _ h2
  · exact key _ h4
  · exact key _ h5
  · exact key _ hw
section JK
variable {l : Launch} {D : va_G} {R : Room} {nL : Nat} {X : jX} {cc : ByteArray} {own : String} {cw : Cond} {cI cZ : ClassId} {ret : Option FieldType} {wl : va_W} {pc c s : Nat} {L : List (Nat × Value)} {st : List Value}
theorem jF_c (hF : jF D R nL (jXc X c s) cc own (cw :: jG) (jTys cI cZ) ret) {c2 s2 : Nat} (hc : c2 ≤ R.cells) (hs : s2 ≤ R.slots) : jF D R nL (jXc X c2 s2) cc own (cw :: jG) (jTys cI cZ) ret := ⟨hF.1, hF.2.1, hF.2.2.1, hF.2.2.2.1, hF.2.2.2.2.1, hF.2.2.2.2.2.1, hF.2.2.2.2.2.2.1, hF.2.2.2.2.2.2.2.1, hF.2.2.2.2.2.2.2.2.1, hc, hs, hF.2.2.2.2.2.2.2.2.2.2.2⟩
theorem jq_newI (hF : jF D R nL (jXc X c s) cc own (cw :: jG) (jTys cI cZ) ret) {n : Nat} (hn : n < 2 ^ 20) (hc : c + 1 ≤ R.cells) (hs : s + n ≤ R.slots) (hd : decode cc pc = .ok (.newarray .int, 2)) (k : ∀ q : Nat, jJ l D R nL (jXc X (c + 1) (s + n)) (wl ++ [(q, .inl (cI, n, .inl (fun _ => 0)))]) (pc + 2) L (.ref q :: st)) : jJ l D R nL (jXc X c s) wl pc L (.int (nI n) :: st) := by
  intro H locs ls hP hD hS hl
  refine va_newa hF.1 hF.2.1 (atype := .int) (hF.2.2.2.2.1 _ (List.mem_cons_of_mem _ mA_int)) (ty := .int) rfl hF.2.2.2.2.2.1 hP hD hS hF.2.2.2.2.2.2.2.2.1 (a0 := (n, .inl (fun _ => 0))) (N' := n) (fun _ => rfl) (nI_pos (by omega)) (nI_clamp (by omega)) (by simp only [componentBytes]; omega) hc hs hd (fun q cA H1 hK1 hP1 hD1 hS1 => ?_)
  have e1 : _ = some cA := (hK1.2 2 (cA, .int) rfl).2
  have e2 : _ = some cI := (hK1.2 0 (cI, .int) rfl).2
  have e3 : cA = cI := Option.some.inj (e1.symm.trans e2)
  subst e3
  exact k q H1 locs ls hP1 hD1 hS1 hl
theorem jq_newZ (hF : jF D R nL (jXc X c s) cc own (cw :: jG) (jTys cI cZ) ret) {n : Nat} (hn : n < 2 ^ 20) (hc : c + 1 ≤ R.cells) (hs : s + n ≤ R.slots) (hd : decode cc pc = .ok (.newarray .boolean, 2)) (k : ∀ q : Nat, jJ l D R nL (jXc X (c + 1) (s + n)) (wl ++ [(q, .inl (cZ, n, .inl (fun _ => 0)))]) (pc + 2) L (.ref q :: st)) : jJ l D R nL (jXc X c s) wl pc L (.int (nI n) :: st) := by
  intro H locs ls hP hD hS hl
  refine va_newa hF.1 hF.2.1 (atype := .boolean) (hF.2.2.2.2.1 _ (List.mem_cons_of_mem _ mA_boolean)) (ty := .boolean) rfl hF.2.2.2.2.2.1 hP hD hS hF.2.2.2.2.2.2.2.2.1 (a0 := (n, .inl (fun _ => 0))) (N' := n) (fun _ => rfl) (nI_pos (by omega)) (nI_clamp (by omega)) (by simp only [componentBytes]; omega) hc hs hd (fun q cA H1 hK1 hP1 hD1 hS1 => ?_)
  have e1 : _ = some cA := (hK1.2 2 (cA, .boolean) rfl).2
  have e2 : _ = some cZ := (hK1.2 1 (cZ, .boolean) rfl).2
  have e3 : cA = cZ := Option.some.inj (e1.symm.trans e2)
  subst e3
  exact k q H1 locs ls hP1 hD1 hS1 hl
theorem jq_newO (hF : jF D R nL (jXc X c s) cc own (cw :: jG) (jTys cI cZ) ret) {C : String} {T : u_T} {N ci index : Nat} {fs : List Value} (hin : ∀ w ∈ u_ws C T N, w ∈ jG) (ty0 : Nat → FieldType) (hty : ∀ k, k < N → parseFieldDescriptor (T k).2.2.1 = some (ty0 k)) (hcl : Cond.classLink own index C ∈ jG) (hinst : Cond.instantiable C N ∈ jG) (hini : Cond.initialized C ∈ jG) (hc0 : vwCl[ci]? = some (C, T, N)) (hfs : ∀ j, j < N → defaultValue (ty0 j) = vp_V fs j) (hc : c + 1 ≤ R.cells) (hs : s + N ≤ R.slots) (hd : decode cc pc = .ok (.new index, 3)) (k : ∀ q : Nat, jJ l D R nL (jXc X (c + 1) (s + N)) (wl ++ [(q, .inr (ci, fs))]) (pc + 3) L (.ref q :: st)) : jJ l D R nL (jXc X c s) wl pc L st :=
  fun H locs ls hP hD hS hl => va_new hF.1 hF.2.1 hF.2.2.2.2.1 (fun w h => List.mem_cons_of_mem _ (hin w h)) ty0 hty hF.2.2.2.1 (hF.2.2.2.2.1 _ (List.mem_cons_of_mem _ hcl)) (hF.2.2.2.2.1 _ (List.mem_cons_of_mem _ hinst)) (hF.2.2.2.2.1 _ (List.mem_cons_of_mem _ hini)) hF.2.2.2.2.2.1 hP hD hS hF.2.2.2.2.2.2.2.2.1 hc0 hfs hc hs hd (fun q H1 hP1 hD1 hS1 => k q H1 locs ls hP1 hD1 hS1 hl)
theorem jq_putF (hF : jF D R nL (jXc X c s) cc own (cw :: jG) (jTys cI cZ) ret) (hini : (X.2.2.2.2.2.2.1).name = "<init>") {C : String} {T : u_T} {N ci index : Nat} {a : Nat} {fs : List Value} {v : Value} {ty : FieldType} (wl' : va_W) (hin : ∀ w ∈ u_ws C T N, w ∈ jG) (ty0 : Nat → FieldType) (hty : ∀ k, k < N → parseFieldDescriptor (T k).2.2.1 = some (ty0 k)) (hnm : ∀ a, a < N → ∀ b, b < N → a ≠ b → (T a).2.1 ≠ (T b).2.1) (q0 : Nat) (he : wl[q0]? = some (a, .inr (ci, fs))) (hc : vwCl[ci]? = some (C, T, N)) (k0 : Nat) (hk : k0 < N) (hlink : Cond.fieldLink own index (T k0).1 (T k0).2.1 (T k0).2.2.1 ∈ jG) (hfin : (T k0).2.2.2 = true) (hdecl : (T k0).1 = own) (hdesc : parseFieldDescriptor (T k0).2.2.1 = some ty) (hn : narrow ty v = v) (hfit : fits ty v = true) (hlen : k0 < fs.length) (hw : wl.set q0 (a, .inr (ci, fs.set k0 v)) = wl') (hd : decode cc pc = .ok (.putfield index, 3)) (k : jJ l D R nL (jXc X c s) wl' (pc + 3) L st) : jJ l D R nL (jXc X c s) wl pc L (v :: .ref a :: st) :=
  fun H locs ls hP hD hS hl => va_putF hF.1 hF.2.1 hF.2.2.2.2.1 (fun w h => List.mem_cons_of_mem _ (hin w h)) ty0 hty hnm hF.2.2.2.1 hF.2.2.2.2.2.1 hP hD hS q0 he hc k0 hk (hF.2.2.2.2.1 _ (List.mem_cons_of_mem _ hlink)) (fun _ h9 => h9) hfin hini hdecl hdesc hn hfit hlen hd (fun H1 locs1 hP1 hD1 hS1 => k H1 locs1 ls (hw ▸ hP1) (hw ▸ hD1) hS1 hl)
theorem jq_objI (hF : jF D R nL (jXc X c s) cc own (cw :: jG) (jTys cI cZ) ret) {a idx : Nat} (hlk : Cond.methodLink own idx objectInit ∈ jG) (hfr : 1 ≤ R.frames) (hlo : (st.map fun v => v.category).sum + 12 ≤ R.locals) (hd : decode cc pc = .ok (.invokespecial idx, 3)) (k : jJ l D R nL (jXc X c s) wl (pc + 3) L st) : jJ l D R nL (jXc X c s) wl pc L (.ref a :: st) :=
  fun H locs ls hP hD hS hl => W.objInit hF.1 hF.2.1 hF.2.2.2.1 (hF.2.2.2.2.1 _ (List.mem_cons_of_mem _ hlk)) (hF.2.2.2.2.1 _ (List.mem_cons_of_mem _ mI_O)) (hF.2.2.2.2.1 _ (List.mem_cons_of_mem _ mC_O)) rfl (hl.1.trans hF.2.2.1.symm) rfl hd hfr (by show 2 * 0 + _ + 12 ≤ _; omega) (W.eq (g2 := F0 _ (pc + 3) ls st) rfl (k H locs ls hP hD hS hl))
/-- the cells in another order, or fewer -/
theorem jq_wsub {X : jX} (wl' : va_W) (js : List Nat) (h1 : js.filterMap (fun i => wl[i]?) = wl') (h2 : js.map (fun i => wl[i]?) = wl'.map some) (h3 : va_nd js = true) (k : jJ l D R nL X wl' pc L st) : jJ l D R nL X wl pc L st := fun H locs ls hP hD hS hl => k H locs ls (hP.sub js h1) (hD.sub js h3 h2) hS hl
/-- a constructor's contract: the new cells' addresses are u -/
def jK (l : Launch) (y : MethodName) (ws : List Cond) (rm : Room) (D : va_G) (tys : List (ClassId × FieldType)) (av : List Value) (wl : va_W) (w2 : (Nat → Nat) → va_W) : Prop :=
  ∀ sz : Nat, Met l y ws rm (jPre D tys av wl sz) (va_Qv (fun (_ : Nat → Nat) => True) (fun u t => va_P D vwCl (w2 u) t.heap ∧ va_K D vwCl tys t ∧ va_D (va_A wl sz) (w2 u)) (va_A wl sz)) rm.cells rm.slots (va_A wl sz)
theorem jK_of {y : MethodName} {ws ws' : List Cond} {rm : Room} {av : List Value} {maxL : Nat} {w2 : (Nat → Nat) → va_W} (hy : plainName y.cls = true) (hn : y.name = "<init>") (hw : ws = Cond.code y cc maxL none :: ws') (hlen : (lg_sl av).length ≤ maxL)
    (body : ∀ X : jX, jF D rm maxL (jXc X 0 0) cc y.cls ws (jTys cI cZ) none → (X.2.2.2.2.2.2.1).name = "<init>" → (∀ (u : Nat → Nat) (pc : Nat) (L : List (Nat × Value)), decode cc pc = .ok (.return_, 1) → jJ l D rm maxL (jXc X rm.cells rm.slots) (w2 u) pc L []) → jJ l D rm maxL (jXc X 0 0) wl 0 (lv_args 0 av) []) : jK l y ws rm D (jTys cI cZ) av wl w2 := by
  intro sz
  refine Met.ofW (cc := cc) (maxL := maxL) (ret := none) hy hw ?_
  intro p e s m args below meth c s₁ B hml hv
  obtain ⟨rfl, hsz, hP, hK, hD0, hNw⟩ := hv
  subst hsz
  have hD := hD0.self (sz := s.heap.size)
  have hin : meth.name = "<init>" := (name_of_methodNamed B.named B.method).1.trans hn
  rw [lg_entry_eq]
  refine body (p, e, s, m, av.toArray, below, meth, c, 0, 0, MQ below (va_Qv (fun (_ : Nat → Nat) => True) (fun u t => va_P D vwCl (w2 u) t.heap ∧ va_K D vwCl (jTys cI cZ) t ∧ va_D (va_A wl s.heap.size) (w2 u)) (va_A wl s.heap.size)) av.toArray s rm.cells rm.slots (va_A wl s.heap.size), va_A wl s.heap.size, s.heap) ⟨B.exec, B.bytes, hml, findClass_of_methodNamed B.named, atoms_spec (ws := ws) B.pre, hK, B.returns, B.notSynchronized, fun q h => Or.inr h, Nat.zero_le _, Nat.zero_le _, hNw⟩ hin ?_ s.heap [] _ hP hD va_S.rf (lv_entry av hlen)
  intro u pc L hd H locs ls hP1 hD1 hS1 hl1
  exact W.vret B.exec B.bytes B.returns (fun t ht hW => ⟨⟨u, rfl, trivial, by rw [ht]; exact hP1, va_K.moved hW.alike hK, hD1⟩, hS1.F ht⟩) hS1.2.2 hd B.notSynchronized
theorem jq_cK (hF : jF D R nL (jXc X c s) cc own (cw :: jG) (jTys cI cZ) ret) {y : MethodName} {ws' wsT : List Cond} {rm' : Room} {idx maxL' n b : Nat} {bytes : ByteArray} {As rest : List Value} {wc wr : va_W} {w2 : (Nat → Nat) → va_W} (isC isR : List Nat) (hC1 : isC.filterMap (fun i => wl[i]?) = wc) (hC : isC.map (fun i => wl[i]?) = wc.map some) (hCn : va_nd isC = true) (hR : isR.map (fun i => wl[i]?) = wr.map some) (hnd : va_nd isR = true) (hdis : ∀ i ∈ isR, i ∉ isC)
    (hM : jK l y wsT rm' D (jTys cI cZ) (.ref b :: As) wc w2) (hG : GoodIn (cw :: jG) wsT) (hw : wsT = Cond.code y bytes maxL' none :: ws') (hini : Cond.initialized y.cls ∈ jG) (hlk : Cond.methodLink own idx y ∈ jG) (hinst : Cond.instanceMethod y ∈ jG) (hy1 : y.name = "<init>") (hdd : y.cls ≠ "java/lang/invoke/MethodHandle" ∧ y.cls ≠ "java/lang/invoke/VarHandle" ∧ (parseMethodDescriptor y.desc).map (fun d => d.parameters.length) = some n) (hRm : rm'.frames + 1 ≤ R.frames ∧ 8 + (maxL' + 11) + rm'.locals ≤ R.locals) (hcc : c + rm'.cells ≤ R.cells) (hss : s + rm'.slots ≤ R.slots) (hn : As.length = n) (hst : st = As.reverse ++ .ref b :: rest) (hW : (rest.map fun v => v.category).sum ≤ 8) (hd : decode cc pc = .ok (.invokespecial idx, 3)) (k : ∀ u : Nat → Nat, jJ l D R nL (jXc X (c + rm'.cells) (s + rm'.slots)) (wr ++ w2 u) (pc + 3) L rest) : jJ l D R nL (jXc X c s) wl pc L st := by
  intro H locs ls hP hD hS hl
  have hA := hF.2.2.2.2.2.2.2.2.1
  have hPc := hP.sub (ws' := wc) isC hC1
  have hDc := hD.sub (ws' := wc) isC hCn hC
  have hFc := va_free (wc := wc) hD hS hA isC hC
  refine va_callv (va_runI (As := As) (rest := rest) ⟨hF.1, hF.2.1, hF.2.2.1, hF.2.2.2.1, hF.2.2.2.2.1⟩ (hM H.size) (cwI n hF.2.2.2.2.1 hG hw rfl rfl (hF.2.2.2.2.1 _ (List.mem_cons_of_mem _ hini)) (hF.2.2.2.2.1 _ (List.mem_cons_of_mem _ hlk)) (hF.2.2.2.2.1 _ (List.mem_cons_of_mem _ hinst)) hy1 hdd hRm) ⟨jq_blind, fun U hU hW => ⟨rfl, by rw [hU], by rw [hU]; exact hPc, va_K.moved hW.alike hF.2.2.2.2.2.1, hDc.weaken (fun _ _ _ _ => trivial), jn_warm hW hF.2.2.2.2.2.2.2.2.2.2.2⟩⟩ rfl hn hl.1 hst (lv_room hW) hd ⟨hcc, hss⟩) hS (fun q _ h => hFc q h) hFc (fun u t H1 locs1 ht hvm hp hB hz hk hS1 => ?_)
  obtain ⟨hP1, hK1, hD1⟩ := hB
  rw [ht] at hP1
  obtain ⟨hP2, hD2⟩ := va_join (wr := wr) (w1 := w2 u) hP hD isC isR hC hR hnd hdis hk hFc hP1 hD1
  exact k u H1 locs1 ls hP2 hD2 hS1 hl
theorem jq_cF (hF : jF D R nL (jXc X c s) cc own (cw :: jG) (jTys cI cZ) ret) {y : MethodName} {ws' wsT : List Cond} {rm' : Room} {idx maxL' n : Nat} {bytes : ByteArray} {As rest : List Value} {wc wr w1 : va_W} (isC isR : List Nat) (hC1 : isC.filterMap (fun i => wl[i]?) = wc) (hC : isC.map (fun i => wl[i]?) = wc.map some) (hCn : va_nd isC = true) (hR : isR.map (fun i => wl[i]?) = wr.map some) (hnd : va_nd isR = true) (hdis : ∀ i ∈ isR, i ∉ isC)
    (hM : jV l y wsT rm' D (jTys cI cZ) As wc w1) (hG : GoodIn (cw :: jG) (va_wsS own idx y wsT)) (hw : wsT = Cond.code y bytes maxL' none :: ws') (hrc : rm'.cells = 0) (hrs : rm'.slots = 0) (hdd : y.cls ≠ "java/lang/invoke/MethodHandle" ∧ y.cls ≠ "java/lang/invoke/VarHandle" ∧ (parseMethodDescriptor y.desc).map (fun d => d.parameters.length) = some n) (hRm : rm'.frames + 1 ≤ R.frames ∧ 8 + (maxL' + 11) + rm'.locals ≤ R.locals) (hn : As.length = n) (hst : st = As.reverse ++ rest) (hW : (rest.map fun v => v.category).sum ≤ 8) (hd : decode cc pc = .ok (.invokestatic idx, 3)) (k : jJ l D R nL (jXc X c s) (wr ++ w1) (pc + 3) L rest) : jJ l D R nL (jXc X c s) wl pc L st := by
  intro H locs ls hP hD hS hl
  have hA := hF.2.2.2.2.2.2.2.2.1
  have hPc := hP.sub (ws' := wc) isC hC1
  have hDc := hD.sub (ws' := wc) isC hCn hC
  have hFc := va_free (wc := wc) hD hS hA isC hC
  refine va_callv (va_runS (As := As) (rest := rest) ⟨hF.1, hF.2.1, hF.2.2.1, hF.2.2.2.1, hF.2.2.2.2.1⟩ (hM H.size) (va_cwS n hF.2.2.2.2.1 hG hw hrc hrs hdd hRm) ⟨jq_blind, fun U hU hW => ⟨rfl, by rw [hU], by rw [hU]; exact hPc, va_K.moved hW.alike hF.2.2.2.2.2.1, hDc.weaken (fun _ _ _ _ => trivial), jn_warm hW hF.2.2.2.2.2.2.2.2.2.2.2⟩⟩ rfl hn hl.1 hst (lv_room hW) hd ⟨hF.2.2.2.2.2.2.2.2.2.1, hF.2.2.2.2.2.2.2.2.2.2.1⟩) hS (fun q _ h => hFc q h) hFc (fun u t H1 locs1 ht hvm hp hB hz hk hS1 => ?_)
  obtain ⟨hP1, hK1, hD1⟩ := hB
  rw [ht] at hP1
  obtain ⟨hP2, hD2⟩ := va_join (wr := wr) (w1 := w1) hP hD isC isR hC hR hnd hdis hk hFc hP1 hD1
  exact k H1 locs1 ls hP2 hD2 hS1 hl
theorem jq_cXI (hF : jF D R nL X cc own (cw :: jG) (jTys cI cZ) ret) {y : MethodName} {ws' wsT : List Cond} {rm' : Room} {idx maxL' n : Nat} {bytes : ByteArray} {rt : Option FieldType} {As rest : List Value} {wl2 : va_W} {r : Int32} (hM : jI l y wsT rm' D (jTys cI cZ) As wl wl2 r) (hG : GoodIn (cw :: jG) (va_wsS own idx y wsT)) (hw : wsT = Cond.code y bytes maxL' rt :: ws') (hrc : rm'.cells = 0) (hrs : rm'.slots = 0) (hdd : y.cls ≠ "java/lang/invoke/MethodHandle" ∧ y.cls ≠ "java/lang/invoke/VarHandle" ∧ (parseMethodDescriptor y.desc).map (fun d => d.parameters.length) = some n) (hRm : rm'.frames + 1 ≤ R.frames ∧ 8 + (maxL' + 11) + rm'.locals ≤ R.locals) (hn : As.length = n) (hst : st = As.reverse ++ rest) (hW : (rest.map fun v => v.category).sum ≤ 8) (hd : decode cc pc = .ok (.invokestatic idx, 3)) (k : jJ l D R nL X wl2 (pc + 3) L (.int r :: rest)) : jJ l D R nL X wl pc L st :=
  fun H locs ls hP hD hS hl => va_calli (va_runS (As := As) (rest := rest) ⟨hF.1, hF.2.1, hF.2.2.1, hF.2.2.2.1, hF.2.2.2.2.1⟩ (hM H.size) (va_cwS n hF.2.2.2.2.1 hG hw hrc hrs hdd hRm) ⟨jq_blind, fun U hU hW => ⟨rfl, by rw [hU], by rw [hU]; exact hP, va_K.moved hW.alike hF.2.2.2.2.2.1, hD.weaken (fun _ _ _ _ => trivial), jn_warm hW hF.2.2.2.2.2.2.2.2.2.2.2⟩⟩ rfl hn hl.1 hst (lv_room hW) hd ⟨hF.2.2.2.2.2.2.2.2.2.1, hF.2.2.2.2.2.2.2.2.2.2.1⟩) hS (fun q _ h => jq_free hD hS hF.2.2.2.2.2.2.2.2.1 q h) (jq_free hD hS hF.2.2.2.2.2.2.2.2.1) (fun r' u t H1 locs1 ht hvm hp hB hz hk hS1 => by cases hp; exact k H1 locs1 ls (ht ▸ hB.1) (hB.2.2.weaken (fun _ _ _ h => jq_free hD hS hF.2.2.2.2.2.2.2.2.1 _ h)) hS1 hl)
end JK
theorem dA_fill_0 : decode cA_fill 0 = .ok (.iconst 0, 1) := by decide +kernel
theorem dA_fill_1 : decode cA_fill 1 = .ok (.istore_n 2, 1) := by decide +kernel
theorem dA_fill_2 : decode cA_fill 2 = .ok (.aload_n 0, 1) := by decide +kernel
theorem dA_fill_3 : decode cA_fill 3 = .ok (.arraylength, 1) := by decide +kernel
theorem dA_fill_4 : decode cA_fill 4 = .ok (.istore_n 3, 1) := by decide +kernel
theorem dA_fill_5 : decode cA_fill 5 = .ok (.iload_n 2, 1) := by decide +kernel
theorem dA_fill_6 : decode cA_fill 6 = .ok (.iload_n 3, 1) := by decide +kernel
theorem dA_fill_7 : decode cA_fill 7 = .ok (.if_icmp .ge 13, 3) := by decide +kernel
theorem dA_fill_10 : decode cA_fill 10 = .ok (.aload_n 0, 1) := by decide +kernel
theorem dA_fill_11 : decode cA_fill 11 = .ok (.iload_n 2, 1) := by decide +kernel
theorem dA_fill_12 : decode cA_fill 12 = .ok (.iload_n 1, 1) := by decide +kernel
theorem dA_fill_13 : decode cA_fill 13 = .ok (.iastore, 1) := by decide +kernel
theorem dA_fill_14 : decode cA_fill 14 = .ok (.iinc 2 1, 3) := by decide +kernel
theorem dA_fill_17 : decode cA_fill 17 = .ok (.goto (-12), 3) := by decide +kernel
theorem dA_fill_20 : decode cA_fill 20 = .ok (.return_, 1) := by decide +kernel
def fillF (f : Nat → Int32) (v : Int32) : Nat → Nat → Int32
  | 0 => f
  | n + 1 => upd (fillF f v n) n v
theorem fillF_at (f : Nat → Int32) (v : Int32) : ∀ n i, i < n → fillF f v n i = v := by
  intro n
  induction n with
  | zero => exact fun i h => absurd h (Nat.not_lt_zero _)
  | succ n ih =>
    intro i hi
    show upd (fillF f v n) n v i = v
    unfold upd
    split
    · rfl
    · exact ih i (by omega)
set_option maxHeartbeats 4000000 in
theorem mA_fill (l : Launch) (D : va_G) (cI cZ : ClassId) (q n : Nat) (f : Nat → Int32) (v : Int32) (hn : n < 2 ^ 20) : jV l yA_fill w_A_fill (rmD 0) D (jTys cI cZ) [.ref q, .int v] [(q, .inl (cI, n, .inl f))] [(q, .inl (cI, n, .inl (fillF f v n)))] := by
  refine jV_of (ws' := jG) (by decide) rfl (Nat.le_of_ble_eq_true rfl) ?_
  intro X hF hk
  show jJ l D (rmD 0) 4 X [(q, .inl (cI, n, .inl f))] 0 [(0, .ref q), (1, .int v)] []
  refine jq_iconst (pc := 0) hF dA_fill_0 ic_0 ?_
  refine jq_istore_n (pc := 1) hF [(2, .int (nI 0)), (0, .ref q), (1, .int v)] dA_fill_1 (Nat.le_of_ble_eq_true rfl) rfl ?_
  refine jq_aload_n (pc := 2) hF 1 dA_fill_2 rfl ?_
  refine jq_alen (pc := 3) hF 0 0 rfl rfl dA_fill_3 ?_
  refine jq_istore_n (pc := 4) hF [(3, .int (nI n)), (2, .int (nI 0)), (0, .ref q), (1, .int v)] dA_fill_4 (Nat.le_of_ble_eq_true rfl) rfl ?_
  have lp : ∀ i, i ≤ n → jJ l D (rmD 0) 4 X [(q, .inl (cI, n, .inl (fillF f v i)))] 5 [(2, .int (nI i)), (3, .int (nI n)), (0, .ref q), (1, .int v)] [] := by
    refine loop_up (fun i hi ih => ?_)
    refine jq_iload_n (pc := 5) hF 0 dA_fill_5 rfl ?_
    refine jq_iload_n (pc := 6) hF 1 dA_fill_6 rfl ?_
    refine jq_icmp_geN (pc := 7) hF 20 (by omega) (by omega) dA_fill_7 rfl (fun h7 => ?_) (fun h7 => ?_)
    · obtain rfl : i = n := by omega
      exact hk 20 _ dA_fill_20
    · refine jq_aload_n (pc := 10) hF 2 dA_fill_10 rfl ?_
      refine jq_iload_n (pc := 11) hF 0 dA_fill_11 rfl ?_
      refine jq_iload_n (pc := 12) hF 3 dA_fill_12 rfl ?_
      refine jq_iastN (pc := 13) hF 0 0 [(q, .inl (cI, n, .inl (fillF f v (i + 1))))] rfl rfl (by omega) h7 rfl dA_fill_13 ?_
      refine jq_iincN (pc := 14) hF 0 [(2, .int (nI (i + 1))), (3, .int (nI n)), (0, .ref q), (1, .int v)] dA_fill_14 rfl (Nat.le_of_ble_eq_true rfl) rfl ?_
      refine jq_goto (pc := 17) hF 5 dA_fill_17 rfl ?_
      exact ih h7
  refine jq_sub [(2, .int (nI 0)), (3, .int (nI n)), (0, .ref q), (1, .int v)] [1, 0, 2, 3] rfl ?_
  exact lp 0 (Nat.zero_le _)
theorem mLH_max : Cond.methodLink rN 207 Lib.Math.max.name ∈ jG := jG_t1 25 rfl rfl
theorem mTH_max : Cond.static Lib.Math.max.name ∈ jG := jG_t1 26 rfl rfl
theorem mCH_max : Cond.code Lib.Math.max.name Lib.Math.max.code 2 (some .int) ∈ jG := jG_t1 27 rfl rfl
theorem jq_mmax {l : Launch} {D : va_G} {R : Room} {nL : Nat} {X : jX} {cc : ByteArray} {own : String} {cw : Cond} {tys : List (ClassId × FieldType)} {ret : Option FieldType} {wl : va_W} {pc idx : Nat} {L : List (Nat × Value)} {st : List Value} (hF : jF D R nL X cc own (cw :: jG) tys ret) {x y : Int32} (hlk : Cond.methodLink own idx Lib.Math.max.name ∈ jG) (hfr : 1 ≤ R.frames) (hlo : (st.map fun v => v.category).sum + 13 ≤ R.locals) (hd : decode cc pc = .ok (.invokestatic idx, 3)) (k : jJ l D R nL X wl (pc + 3) L (.int (if x < y then y else x) :: st)) : jJ l D R nL X wl pc L (.int y :: .int x :: st) :=
  fun H locs ls hP hD hS hl => va_mmax hF.1 hF.2.1 (hF.2.2.1.trans hl.1.symm) hF.2.2.2.1 (hF.2.2.2.2.1 _ (List.mem_cons_of_mem _ hlk)) (hF.2.2.2.2.1 _ (List.mem_cons_of_mem _ mTH_max)) (hF.2.2.2.2.1 _ (List.mem_cons_of_mem _ mZ_H)) (hF.2.2.2.2.1 _ (List.mem_cons_of_mem _ mCH_max)) hfr hlo hF.2.2.2.2.2.2.2.2.2.1 hF.2.2.2.2.2.2.2.2.2.2.1 hd (k H locs ls hP hD hS hl)
theorem mLH_min : Cond.methodLink rN 202 Lib.Math.min.name ∈ jG := jG_t1 22 rfl rfl
theorem mTH_min : Cond.static Lib.Math.min.name ∈ jG := jG_t1 23 rfl rfl
theorem mCH_min : Cond.code Lib.Math.min.name Lib.Math.min.code 2 (some .int) ∈ jG := jG_t1 24 rfl rfl
theorem jq_mmin {l : Launch} {D : va_G} {R : Room} {nL : Nat} {X : jX} {cc : ByteArray} {own : String} {cw : Cond} {tys : List (ClassId × FieldType)} {ret : Option FieldType} {wl : va_W} {pc idx : Nat} {L : List (Nat × Value)} {st : List Value} (hF : jF D R nL X cc own (cw :: jG) tys ret) {x y : Int32} (hlk : Cond.methodLink own idx Lib.Math.min.name ∈ jG) (hfr : 1 ≤ R.frames) (hlo : (st.map fun v => v.category).sum + 13 ≤ R.locals) (hd : decode cc pc = .ok (.invokestatic idx, 3)) (k : jJ l D R nL X wl (pc + 3) L (.int (if y < x then y else x) :: st)) : jJ l D R nL X wl pc L (.int y :: .int x :: st) :=
  fun H locs ls hP hD hS hl => va_mmin hF.1 hF.2.1 (hF.2.2.1.trans hl.1.symm) hF.2.2.2.1 (hF.2.2.2.2.1 _ (List.mem_cons_of_mem _ hlk)) (hF.2.2.2.2.1 _ (List.mem_cons_of_mem _ mTH_min)) (hF.2.2.2.2.1 _ (List.mem_cons_of_mem _ mZ_H)) (hF.2.2.2.2.1 _ (List.mem_cons_of_mem _ mCH_min)) hfr hlo hF.2.2.2.2.2.2.2.2.2.1 hF.2.2.2.2.2.2.2.2.2.2.1 hd (k H locs ls hP hD hS hl)
set_option maxHeartbeats 4000000 in
theorem mN_nearest (l : Launch) (D : va_G) (cI cZ : ClassId) (wl : va_W) (n lo hi : Int32) : jI l yN_nearest w_N_nearest (rmD 1) D (jTys cI cZ) [.int n, .int lo, .int hi] wl wl (if lo < (if n < hi then n else hi) then (if n < hi then n else hi) else lo) := by
  refine jI_of (ws' := jG) rfl (by decide) rfl (Nat.le_of_ble_eq_true rfl) ?_
  intro X hF hk
  show jJ l D (rmD 1) 3 X wl 0 [(0, .int n), (1, .int lo), (2, .int hi)] []
  refine jq_iload_n (pc := 0) hF 1 dN_nearest_0 rfl ?_
  refine jq_iload_n (pc := 1) hF 2 dN_nearest_1 rfl ?_
  refine jq_iload_n (pc := 2) hF 0 dN_nearest_2 rfl ?_
  refine jq_mmin (pc := 3) hF mLH_min (Nat.le_of_ble_eq_true rfl) (Nat.le_of_ble_eq_true rfl) dN_nearest_3 ?_
  refine jq_mmax (pc := 6) hF mLH_max (Nat.le_of_ble_eq_true rfl) (Nat.le_of_ble_eq_true rfl) dN_nearest_6 ?_
  exact hk 9 _ dN_nearest_9
