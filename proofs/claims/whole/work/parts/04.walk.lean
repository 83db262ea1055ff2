/-! the generic walk layer: jJ says 'from any heap that holds the world wl, at pc with these locals and this stack, the machine comes to Q' -/
/-- the context of a walk, in one tuple -/
abbrev jX : Type := Program × Env × State × MethodId × (Array Value) × (List Frame) × Method × Code × Nat × Nat × (State → Prop) × (Nat → Prop) × Heap
section JQ
variable {l : Launch} {D : va_G} {R : Room} {nL : Nat} {X : jX} {cc : ByteArray} {own : String} {Ts : List Cond} {tys : List (ClassId × FieldType)} {ret : Option FieldType} {wl : va_W} {pc : Nat} {L : List (Nat × Value)} {st : List Value}
def jJ (l : Launch) (D : va_G) (R : Room) (nL : Nat) (X : jX) (wl : va_W) (pc : Nat) (L : List (Nat × Value)) (st : List Value) : Prop :=
  ∀ (H : Heap) (locs : List Loc) (ls : Array Slot), va_P D vwCl wl H → va_D (X.2.2.2.2.2.2.2.2.2.2.2.1) wl → va_S (X.2.2.2.2.2.2.2.2.2.2.2.1) (X.2.2.2.2.2.2.2.2.2.2.2.2) H locs → lv_has ls nL L → W (X.1) l (X.2.1) R (X.2.2.1) (X.2.2.2.1) (X.2.2.2.2.1) (X.2.2.2.2.2.1) (X.2.2.2.2.2.2.1) (X.2.2.2.2.2.2.2.1) H locs (X.2.2.2.2.2.2.2.2.1) (X.2.2.2.2.2.2.2.2.2.1) (X.2.2.2.2.2.2.2.2.2.2.1) (F0 (X.2.2.2.1) pc ls st)
/-- what stays through a walk -/
def jF (D : va_G) (R : Room) (nL : Nat) (X : jX) (cc : ByteArray) (own : String) (Ts : List Cond) (tys : List (ClassId × FieldType)) (ret : Option FieldType) : Prop :=
  (X.1).tables.exec = Jvm.exec ∧ (X.2.2.2.2.2.2.2.1).code = cc ∧ (X.2.2.2.2.2.2.2.1).maxLocals = nL ∧ (X.2.2.1).vm.findClass own = some (X.2.2.2.1).cls ∧ (∀ w ∈ Ts, w.before (X.2.2.2.2.1) (X.2.2.1) = true) ∧ va_K D vwCl tys (X.2.2.1) ∧ (X.2.2.2.2.2.2.1).sig.returnType = ret ∧ (X.2.2.2.2.2.2.1).locks = false ∧ (∀ q, (X.2.2.2.2.2.2.2.2.2.2.2.2).size ≤ q → (X.2.2.2.2.2.2.2.2.2.2.2.1) q) ∧ (X.2.2.2.2.2.2.2.2.1) ≤ R.cells ∧ (X.2.2.2.2.2.2.2.2.2.1) ≤ R.slots ∧ ∀ w ∈ jNest, va_Nw w (X.2.2.1)
theorem jq_iconst (hF : jF D R nL X cc own Ts tys ret) {n : Int} {v : Int32} (hd : decode cc pc = .ok (.iconst n, 1)) (hv : Int32.ofInt n = v) (k : jJ l D R nL X wl (pc + 1) L (.int v :: st)) : jJ l D R nL X wl pc L st :=
  fun H locs ls hP hD hS hl => lv_iconst hF.1 hF.2.1 hd hv (k H locs ls hP hD hS hl)
theorem jq_bipush (hF : jF D R nL X cc own Ts tys ret) {n : Int} {v : Int32} (hd : decode cc pc = .ok (.bipush n, 2)) (hv : (Int8.ofInt n).toInt32 = v) (k : jJ l D R nL X wl (pc + 2) L (.int v :: st)) : jJ l D R nL X wl pc L st :=
  fun H locs ls hP hD hS hl => lv_bipush hF.1 hF.2.1 hd hv (k H locs ls hP hD hS hl)
theorem jq_sipush (hF : jF D R nL X cc own Ts tys ret) {n : Int} {v : Int32} (hd : decode cc pc = .ok (.sipush n, 3)) (hv : (Int16.ofInt n).toInt32 = v) (k : jJ l D R nL X wl (pc + 3) L (.int v :: st)) : jJ l D R nL X wl pc L st :=
  fun H locs ls hP hD hS hl => lv_sipush hF.1 hF.2.1 hd hv (k H locs ls hP hD hS hl)
theorem jq_lconst (hF : jF D R nL X cc own Ts tys ret) {n : Fin 2} {v : Int64} (hd : decode cc pc = .ok (.lconst n, 1)) (hv : Int64.ofNat (n : Nat) = v) (k : jJ l D R nL X wl (pc + 1) L (.long v :: st)) : jJ l D R nL X wl pc L st :=
  fun H locs ls hP hD hS hl => lv_lconst hF.1 hF.2.1 hd hv (k H locs ls hP hD hS hl)
theorem jq_iload_n (hF : jF D R nL X cc own Ts tys ret) {i : Fin 4} (j : Nat) {x : Int32} (hd : decode cc pc = .ok (.iload_n i, 1)) (hj : L[j]? = some ((i : Nat), .int x)) (k : jJ l D R nL X wl (pc + 1) L (.int x :: st)) : jJ l D R nL X wl pc L st :=
  fun H locs ls hP hD hS hl => lv_iload_n hF.1 hF.2.1 hd rfl (lv_at hl j hj) (k H locs ls hP hD hS hl)
theorem jq_iload (hF : jF D R nL X cc own Ts tys ret) {i : Nat} (j : Nat) {x : Int32} (hd : decode cc pc = .ok (.iload i, 2)) (hj : L[j]? = some (i, .int x)) (k : jJ l D R nL X wl (pc + 2) L (.int x :: st)) : jJ l D R nL X wl pc L st :=
  fun H locs ls hP hD hS hl => lv_iload hF.1 hF.2.1 hd (lv_at hl j hj) (k H locs ls hP hD hS hl)
theorem jq_lload_n (hF : jF D R nL X cc own Ts tys ret) {i : Fin 4} (j : Nat) {x : Int64} (hd : decode cc pc = .ok (.lload_n i, 1)) (hj : L[j]? = some ((i : Nat), .long x)) (k : jJ l D R nL X wl (pc + 1) L (.long x :: st)) : jJ l D R nL X wl pc L st :=
  fun H locs ls hP hD hS hl => lv_lload_n hF.1 hF.2.1 hd rfl (lv_at hl j hj) (k H locs ls hP hD hS hl)
theorem jq_lload (hF : jF D R nL X cc own Ts tys ret) {i : Nat} (j : Nat) {x : Int64} (hd : decode cc pc = .ok (.lload i, 2)) (hj : L[j]? = some (i, .long x)) (k : jJ l D R nL X wl (pc + 2) L (.long x :: st)) : jJ l D R nL X wl pc L st :=
  fun H locs ls hP hD hS hl => lv_lload hF.1 hF.2.1 hd (lv_at hl j hj) (k H locs ls hP hD hS hl)
theorem jq_aload_n (hF : jF D R nL X cc own Ts tys ret) {i : Fin 4} (j : Nat) {x : Nat} (hd : decode cc pc = .ok (.aload_n i, 1)) (hj : L[j]? = some ((i : Nat), .ref x)) (k : jJ l D R nL X wl (pc + 1) L (.ref x :: st)) : jJ l D R nL X wl pc L st :=
  fun H locs ls hP hD hS hl => lv_aload_n hF.1 hF.2.1 hd rfl (lv_at hl j hj) (k H locs ls hP hD hS hl)
theorem jq_aload (hF : jF D R nL X cc own Ts tys ret) {i : Nat} (j : Nat) {x : Nat} (hd : decode cc pc = .ok (.aload i, 2)) (hj : L[j]? = some (i, .ref x)) (k : jJ l D R nL X wl (pc + 2) L (.ref x :: st)) : jJ l D R nL X wl pc L st :=
  fun H locs ls hP hD hS hl => lv_aload hF.1 hF.2.1 hd (lv_at hl j hj) (k H locs ls hP hD hS hl)
theorem jq_istore_n (hF : jF D R nL X cc own Ts tys ret) {i : Fin 4} {x : Int32} (L' : List (Nat × Value)) (hd : decode cc pc = .ok (.istore_n i, 1)) (hn : (i : Nat) < nL) (hL : L' = ((i : Nat), Value.int x) :: L.filter (fun q => !(q.1 == (i : Nat)) && !(q.1 + 1 == (i : Nat) && q.2.category == 2))) (k : jJ l D R nL X wl (pc + 1) L' st) : jJ l D R nL X wl pc L (.int x :: st) :=
  fun H locs ls hP hD hS hl => lv_istore_n hF.1 hF.2.1 hd rfl hl hn hL.symm (fun ls' hl' => k H locs ls' hP hD hS hl')
theorem jq_istore (hF : jF D R nL X cc own Ts tys ret) {i : Nat} {x : Int32} (L' : List (Nat × Value)) (hd : decode cc pc = .ok (.istore i, 2)) (hn : i < nL) (hL : L' = (i, Value.int x) :: L.filter (fun q => !(q.1 == i) && !(q.1 + 1 == i && q.2.category == 2))) (k : jJ l D R nL X wl (pc + 2) L' st) : jJ l D R nL X wl pc L (.int x :: st) :=
  fun H locs ls hP hD hS hl => lv_istore hF.1 hF.2.1 hd hl hn hL.symm (fun ls' hl' => k H locs ls' hP hD hS hl')
theorem jq_lstore_n (hF : jF D R nL X cc own Ts tys ret) {i : Fin 4} {x : Int64} (L' : List (Nat × Value)) (hd : decode cc pc = .ok (.lstore_n i, 1)) (hn : (i : Nat) + 1 < nL) (hL : L' = ((i : Nat), Value.long x) :: L.filter (fun q => !(q.1 == (i : Nat)) && (!(q.1 == (i : Nat) + 1) && !(q.1 + 1 == (i : Nat) && q.2.category == 2)))) (k : jJ l D R nL X wl (pc + 1) L' st) : jJ l D R nL X wl pc L (.long x :: st) :=
  fun H locs ls hP hD hS hl => lv_lstore_n hF.1 hF.2.1 hd rfl hl hn hL.symm (fun ls' hl' => k H locs ls' hP hD hS hl')
theorem jq_lstore (hF : jF D R nL X cc own Ts tys ret) {i : Nat} {x : Int64} (L' : List (Nat × Value)) (hd : decode cc pc = .ok (.lstore i, 2)) (hn : i + 1 < nL) (hL : L' = (i, Value.long x) :: L.filter (fun q => !(q.1 == i) && (!(q.1 == i + 1) && !(q.1 + 1 == i && q.2.category == 2)))) (k : jJ l D R nL X wl (pc + 2) L' st) : jJ l D R nL X wl pc L (.long x :: st) :=
  fun H locs ls hP hD hS hl => lv_lstore hF.1 hF.2.1 hd hl hn hL.symm (fun ls' hl' => k H locs ls' hP hD hS hl')
theorem jq_iinc (hF : jF D R nL X cc own Ts tys ret) {i : Nat} (j : Nat) {n : Int} {x v : Int32} (L' : List (Nat × Value)) (hd : decode cc pc = .ok (.iinc i n, 3)) (hj : L[j]? = some (i, .int x)) (hv : x + Int32.ofInt n = v) (hn : i < nL) (hL : L' = (i, Value.int v) :: L.filter (fun q => !(q.1 == i) && !(q.1 + 1 == i && q.2.category == 2))) (k : jJ l D R nL X wl (pc + 3) L' st) : jJ l D R nL X wl pc L st :=
  fun H locs ls hP hD hS hl => lv_iinc hF.1 hF.2.1 hd hl hj hv hn hL.symm (fun ls' hl' => k H locs ls' hP hD hS hl')
/-- fewer locals, in any order -/
theorem jq_sub (L' : List (Nat × Value)) (js : List Nat) (hL : lv_pick L js = L') (k : jJ l D R nL X wl pc L' st) : jJ l D R nL X wl pc L st := fun H locs ls hP hD hS hl => k H locs ls hP hD hS (lv_sub hl js hL)
theorem jq_iadd (hF : jF D R nL X cc own Ts tys ret) {x y : Int32} (hd : decode cc pc = .ok (.iadd, 1)) (k : jJ l D R nL X wl (pc + 1) L (.int (x + y) :: st)) : jJ l D R nL X wl pc L (.int y :: .int x :: st) :=
  fun H locs ls hP hD hS hl => lv_iadd hF.1 hF.2.1 hd (k H locs ls hP hD hS hl)
theorem jq_isub (hF : jF D R nL X cc own Ts tys ret) {x y : Int32} (hd : decode cc pc = .ok (.isub, 1)) (k : jJ l D R nL X wl (pc + 1) L (.int (x - y) :: st)) : jJ l D R nL X wl pc L (.int y :: .int x :: st) :=
  fun H locs ls hP hD hS hl => lv_isub hF.1 hF.2.1 hd (k H locs ls hP hD hS hl)
theorem jq_imul (hF : jF D R nL X cc own Ts tys ret) {x y : Int32} (hd : decode cc pc = .ok (.imul, 1)) (k : jJ l D R nL X wl (pc + 1) L (.int (x * y) :: st)) : jJ l D R nL X wl pc L (.int y :: .int x :: st) :=
  fun H locs ls hP hD hS hl => lv_imul hF.1 hF.2.1 hd (k H locs ls hP hD hS hl)
theorem jq_iand (hF : jF D R nL X cc own Ts tys ret) {x y : Int32} (hd : decode cc pc = .ok (.iand, 1)) (k : jJ l D R nL X wl (pc + 1) L (.int (x &&& y) :: st)) : jJ l D R nL X wl pc L (.int y :: .int x :: st) :=
  fun H locs ls hP hD hS hl => lv_iand hF.1 hF.2.1 hd (k H locs ls hP hD hS hl)
theorem jq_ior (hF : jF D R nL X cc own Ts tys ret) {x y : Int32} (hd : decode cc pc = .ok (.ior, 1)) (k : jJ l D R nL X wl (pc + 1) L (.int (x ||| y) :: st)) : jJ l D R nL X wl pc L (.int y :: .int x :: st) :=
  fun H locs ls hP hD hS hl => lv_ior hF.1 hF.2.1 hd (k H locs ls hP hD hS hl)
theorem jq_ishl (hF : jF D R nL X cc own Ts tys ret) {x y : Int32} (hd : decode cc pc = .ok (.ishl, 1)) (k : jJ l D R nL X wl (pc + 1) L (.int (x <<< (y &&& 31)) :: st)) : jJ l D R nL X wl pc L (.int y :: .int x :: st) :=
  fun H locs ls hP hD hS hl => lv_ishl hF.1 hF.2.1 hd (k H locs ls hP hD hS hl)
theorem jq_ishr (hF : jF D R nL X cc own Ts tys ret) {x y : Int32} (hd : decode cc pc = .ok (.ishr, 1)) (k : jJ l D R nL X wl (pc + 1) L (.int (x >>> (y &&& 31)) :: st)) : jJ l D R nL X wl pc L (.int y :: .int x :: st) :=
  fun H locs ls hP hD hS hl => lv_ishr hF.1 hF.2.1 hd (k H locs ls hP hD hS hl)
theorem jq_ladd (hF : jF D R nL X cc own Ts tys ret) {x y : Int64} (hd : decode cc pc = .ok (.ladd, 1)) (k : jJ l D R nL X wl (pc + 1) L (.long (x + y) :: st)) : jJ l D R nL X wl pc L (.long y :: .long x :: st) :=
  fun H locs ls hP hD hS hl => lv_ladd hF.1 hF.2.1 hd (k H locs ls hP hD hS hl)
theorem jq_lmul (hF : jF D R nL X cc own Ts tys ret) {x y : Int64} (hd : decode cc pc = .ok (.lmul, 1)) (k : jJ l D R nL X wl (pc + 1) L (.long (x * y) :: st)) : jJ l D R nL X wl pc L (.long y :: .long x :: st) :=
  fun H locs ls hP hD hS hl => lv_lmul hF.1 hF.2.1 hd (k H locs ls hP hD hS hl)
theorem jq_lor (hF : jF D R nL X cc own Ts tys ret) {x y : Int64} (hd : decode cc pc = .ok (.lor, 1)) (k : jJ l D R nL X wl (pc + 1) L (.long (x ||| y) :: st)) : jJ l D R nL X wl pc L (.long y :: .long x :: st) :=
  fun H locs ls hP hD hS hl => lv_lor hF.1 hF.2.1 hd (k H locs ls hP hD hS hl)
theorem jq_lsub (hF : jF D R nL X cc own Ts tys ret) {x y : Int64} (hd : decode cc pc = .ok (.lsub, 1)) (k : jJ l D R nL X wl (pc + 1) L (.long (x - y) :: st)) : jJ l D R nL X wl pc L (.long y :: .long x :: st) :=
  fun H locs ls hP hD hS hl => lv_lsub hF.1 hF.2.1 hd (k H locs ls hP hD hS hl)
theorem jq_land (hF : jF D R nL X cc own Ts tys ret) {x y : Int64} (hd : decode cc pc = .ok (.land, 1)) (k : jJ l D R nL X wl (pc + 1) L (.long (x &&& y) :: st)) : jJ l D R nL X wl pc L (.long y :: .long x :: st) :=
  fun H locs ls hP hD hS hl => lv_land hF.1 hF.2.1 hd (k H locs ls hP hD hS hl)
theorem jq_idiv (hF : jF D R nL X cc own Ts tys ret) {x y : Int32} (hd : decode cc pc = .ok (.idiv, 1)) (hne : ¬ y = 0) (k : jJ l D R nL X wl (pc + 1) L (.int (x / y) :: st)) : jJ l D R nL X wl pc L (.int y :: .int x :: st) :=
  fun H locs ls hP hD hS hl => lv_idiv hF.1 hF.2.1 hd hne (k H locs ls hP hD hS hl)
theorem jq_irem (hF : jF D R nL X cc own Ts tys ret) {x y : Int32} (hd : decode cc pc = .ok (.irem, 1)) (hne : ¬ y = 0) (k : jJ l D R nL X wl (pc + 1) L (.int (x - x / y * y) :: st)) : jJ l D R nL X wl pc L (.int y :: .int x :: st) :=
  fun H locs ls hP hD hS hl => lv_irem hF.1 hF.2.1 hd hne (k H locs ls hP hD hS hl)
theorem jq_lshl (hF : jF D R nL X cc own Ts tys ret) {x v : Int64} {y : Int32} (hd : decode cc pc = .ok (.lshl, 1)) (hv : x <<< (y.toInt64 &&& 63) = v) (k : jJ l D R nL X wl (pc + 1) L (.long v :: st)) : jJ l D R nL X wl pc L (.int y :: .long x :: st) :=
  fun H locs ls hP hD hS hl => lv_lshl hF.1 hF.2.1 hd hv (k H locs ls hP hD hS hl)
theorem jq_i2l (hF : jF D R nL X cc own Ts tys ret) {x : Int32} (hd : decode cc pc = .ok (.i2l, 1)) (k : jJ l D R nL X wl (pc + 1) L (.long x.toInt64 :: st)) : jJ l D R nL X wl pc L (.int x :: st) :=
  fun H locs ls hP hD hS hl => lv_i2l hF.1 hF.2.1 hd rfl (k H locs ls hP hD hS hl)
theorem jq_lcmp (hF : jF D R nL X cc own Ts tys ret) {x y : Int64} (hd : decode cc pc = .ok (.lcmp, 1)) (k : jJ l D R nL X wl (pc + 1) L (.int (lg_cmp x y) :: st)) : jJ l D R nL X wl pc L (.long y :: .long x :: st) :=
  fun H locs ls hP hD hS hl => W.lcmp hF.1 hF.2.1 hd (k H locs ls hP hD hS hl)
theorem jq_ldc (hF : jF D R nL X cc own Ts tys ret) {i : Nat} {v : Int32} (hc : Cond.constant own i v ∈ Ts) (hd : decode cc pc = .ok (.ldc i, 2)) (k : jJ l D R nL X wl (pc + 2) L (.int v :: st)) : jJ l D R nL X wl pc L st :=
  fun H locs ls hP hD hS hl => lv_ldc hF.1 hF.2.1 hF.2.2.2.1 (hF.2.2.2.2.1 _ hc) hd (k H locs ls hP hD hS hl)
theorem jq_ldc2 (hF : jF D R nL X cc own Ts tys ret) {i : Nat} {v : Int64} (hc : Cond.constantLong own i v ∈ Ts) (hd : decode cc pc = .ok (.ldc2_w i, 3)) (k : jJ l D R nL X wl (pc + 3) L (.long v :: st)) : jJ l D R nL X wl pc L st :=
  fun H locs ls hP hD hS hl => lv_ldc2 hF.1 hF.2.1 hF.2.2.2.1 (hF.2.2.2.2.1 _ hc) hd (k H locs ls hP hD hS hl)
theorem jq_dup (hF : jF D R nL X cc own Ts tys ret) {v : Value} (hd : decode cc pc = .ok (.dup, 1)) (hv : v.category = 1) (k : jJ l D R nL X wl (pc + 1) L (v :: v :: st)) : jJ l D R nL X wl pc L (v :: st) :=
  fun H locs ls hP hD hS hl => lv_dup hF.1 hF.2.1 hd hv (k H locs ls hP hD hS hl)
theorem jq_pop (hF : jF D R nL X cc own Ts tys ret) {v : Value} (hd : decode cc pc = .ok (.pop, 1)) (hv : v.category = 1) (k : jJ l D R nL X wl (pc + 1) L st) : jJ l D R nL X wl pc L (v :: st) :=
  fun H locs ls hP hD hS hl => lv_pop hF.1 hF.2.1 hd hv (k H locs ls hP hD hS hl)
theorem jq_dup_x1 (hF : jF D R nL X cc own Ts tys ret) {u v : Value} (hd : decode cc pc = .ok (.dup_x1, 1)) (hu : u.category = 1) (hv : v.category = 1) (k : jJ l D R nL X wl (pc + 1) L (u :: v :: u :: st)) : jJ l D R nL X wl pc L (u :: v :: st) :=
  fun H locs ls hP hD hS hl => lv_dup_x1 hF.1 hF.2.1 hd hu hv (k H locs ls hP hD hS hl)
theorem jq_dup2 (hF : jF D R nL X cc own Ts tys ret) {u v : Value} (hd : decode cc pc = .ok (.dup2, 1)) (hu : u.category = 1) (hv : v.category = 1) (k : jJ l D R nL X wl (pc + 1) L (u :: v :: u :: v :: st)) : jJ l D R nL X wl pc L (u :: v :: st) :=
  fun H locs ls hP hD hS hl => lv_dup2_11 hF.1 hF.2.1 hd hu hv (k H locs ls hP hD hS hl)
theorem jq_if_eq (hF : jF D R nL X cc own Ts tys ret) {x : Int32} {off : Int} (tgt : Nat) (hd : decode cc pc = .ok (.ifCond .eq off, 3)) (ht : (pc : Int) + off = (tgt : Int)) (kt : x = 0 → jJ l D R nL X wl tgt L st) (kf : ¬ x = 0 → jJ l D R nL X wl (pc + 3) L st) : jJ l D R nL X wl pc L (.int x :: st) :=
  fun H locs ls hP hD hS hl => lv_if_eq hF.1 hF.2.1 hd ht (fun h => kt h H locs ls hP hD hS hl) (fun h => kf h H locs ls hP hD hS hl)
theorem jq_icmp_eq (hF : jF D R nL X cc own Ts tys ret) {x y : Int32} {off : Int} (tgt : Nat) (hd : decode cc pc = .ok (.if_icmp .eq off, 3)) (ht : (pc : Int) + off = (tgt : Int)) (kt : x = y → jJ l D R nL X wl tgt L st) (kf : ¬ x = y → jJ l D R nL X wl (pc + 3) L st) : jJ l D R nL X wl pc L (.int y :: .int x :: st) :=
  fun H locs ls hP hD hS hl => lv_icmp_eq hF.1 hF.2.1 hd ht (fun h => kt h H locs ls hP hD hS hl) (fun h => kf h H locs ls hP hD hS hl)
theorem jq_if_ne (hF : jF D R nL X cc own Ts tys ret) {x : Int32} {off : Int} (tgt : Nat) (hd : decode cc pc = .ok (.ifCond .ne off, 3)) (ht : (pc : Int) + off = (tgt : Int)) (kt : ¬ x = 0 → jJ l D R nL X wl tgt L st) (kf : x = 0 → jJ l D R nL X wl (pc + 3) L st) : jJ l D R nL X wl pc L (.int x :: st) :=
  fun H locs ls hP hD hS hl => lv_if_ne hF.1 hF.2.1 hd ht (fun h => kt h H locs ls hP hD hS hl) (fun h => kf h H locs ls hP hD hS hl)
theorem jq_icmp_ne (hF : jF D R nL X cc own Ts tys ret) {x y : Int32} {off : Int} (tgt : Nat) (hd : decode cc pc = .ok (.if_icmp .ne off, 3)) (ht : (pc : Int) + off = (tgt : Int)) (kt : ¬ x = y → jJ l D R nL X wl tgt L st) (kf : x = y → jJ l D R nL X wl (pc + 3) L st) : jJ l D R nL X wl pc L (.int y :: .int x :: st) :=
  fun H locs ls hP hD hS hl => lv_icmp_ne hF.1 hF.2.1 hd ht (fun h => kt h H locs ls hP hD hS hl) (fun h => kf h H locs ls hP hD hS hl)
theorem jq_if_lt (hF : jF D R nL X cc own Ts tys ret) {x : Int32} {off : Int} (tgt : Nat) (hd : decode cc pc = .ok (.ifCond .lt off, 3)) (ht : (pc : Int) + off = (tgt : Int)) (kt : x < 0 → jJ l D R nL X wl tgt L st) (kf : ¬ x < 0 → jJ l D R nL X wl (pc + 3) L st) : jJ l D R nL X wl pc L (.int x :: st) :=
  fun H locs ls hP hD hS hl => lv_if_lt hF.1 hF.2.1 hd ht (fun h => kt h H locs ls hP hD hS hl) (fun h => kf h H locs ls hP hD hS hl)
theorem jq_icmp_lt (hF : jF D R nL X cc own Ts tys ret) {x y : Int32} {off : Int} (tgt : Nat) (hd : decode cc pc = .ok (.if_icmp .lt off, 3)) (ht : (pc : Int) + off = (tgt : Int)) (kt : x < y → jJ l D R nL X wl tgt L st) (kf : ¬ x < y → jJ l D R nL X wl (pc + 3) L st) : jJ l D R nL X wl pc L (.int y :: .int x :: st) :=
  fun H locs ls hP hD hS hl => lv_icmp_lt hF.1 hF.2.1 hd ht (fun h => kt h H locs ls hP hD hS hl) (fun h => kf h H locs ls hP hD hS hl)
theorem jq_if_ge (hF : jF D R nL X cc own Ts tys ret) {x : Int32} {off : Int} (tgt : Nat) (hd : decode cc pc = .ok (.ifCond .ge off, 3)) (ht : (pc : Int) + off = (tgt : Int)) (kt : 0 ≤ x → jJ l D R nL X wl tgt L st) (kf : ¬ 0 ≤ x → jJ l D R nL X wl (pc + 3) L st) : jJ l D R nL X wl pc L (.int x :: st) :=
  fun H locs ls hP hD hS hl => lv_if_ge hF.1 hF.2.1 hd ht (fun h => kt h H locs ls hP hD hS hl) (fun h => kf h H locs ls hP hD hS hl)
theorem jq_icmp_ge (hF : jF D R nL X cc own Ts tys ret) {x y : Int32} {off : Int} (tgt : Nat) (hd : decode cc pc = .ok (.if_icmp .ge off, 3)) (ht : (pc : Int) + off = (tgt : Int)) (kt : y ≤ x → jJ l D R nL X wl tgt L st) (kf : ¬ y ≤ x → jJ l D R nL X wl (pc + 3) L st) : jJ l D R nL X wl pc L (.int y :: .int x :: st) :=
  fun H locs ls hP hD hS hl => lv_icmp_ge hF.1 hF.2.1 hd ht (fun h => kt h H locs ls hP hD hS hl) (fun h => kf h H locs ls hP hD hS hl)
theorem jq_if_gt (hF : jF D R nL X cc own Ts tys ret) {x : Int32} {off : Int} (tgt : Nat) (hd : decode cc pc = .ok (.ifCond .gt off, 3)) (ht : (pc : Int) + off = (tgt : Int)) (kt : 0 < x → jJ l D R nL X wl tgt L st) (kf : ¬ 0 < x → jJ l D R nL X wl (pc + 3) L st) : jJ l D R nL X wl pc L (.int x :: st) :=
  fun H locs ls hP hD hS hl => lv_if_gt hF.1 hF.2.1 hd ht (fun h => kt h H locs ls hP hD hS hl) (fun h => kf h H locs ls hP hD hS hl)
theorem jq_icmp_gt (hF : jF D R nL X cc own Ts tys ret) {x y : Int32} {off : Int} (tgt : Nat) (hd : decode cc pc = .ok (.if_icmp .gt off, 3)) (ht : (pc : Int) + off = (tgt : Int)) (kt : y < x → jJ l D R nL X wl tgt L st) (kf : ¬ y < x → jJ l D R nL X wl (pc + 3) L st) : jJ l D R nL X wl pc L (.int y :: .int x :: st) :=
  fun H locs ls hP hD hS hl => lv_icmp_gt hF.1 hF.2.1 hd ht (fun h => kt h H locs ls hP hD hS hl) (fun h => kf h H locs ls hP hD hS hl)
theorem jq_if_le (hF : jF D R nL X cc own Ts tys ret) {x : Int32} {off : Int} (tgt : Nat) (hd : decode cc pc = .ok (.ifCond .le off, 3)) (ht : (pc : Int) + off = (tgt : Int)) (kt : x ≤ 0 → jJ l D R nL X wl tgt L st) (kf : ¬ x ≤ 0 → jJ l D R nL X wl (pc + 3) L st) : jJ l D R nL X wl pc L (.int x :: st) :=
  fun H locs ls hP hD hS hl => lv_if_le hF.1 hF.2.1 hd ht (fun h => kt h H locs ls hP hD hS hl) (fun h => kf h H locs ls hP hD hS hl)
theorem jq_icmp_le (hF : jF D R nL X cc own Ts tys ret) {x y : Int32} {off : Int} (tgt : Nat) (hd : decode cc pc = .ok (.if_icmp .le off, 3)) (ht : (pc : Int) + off = (tgt : Int)) (kt : x ≤ y → jJ l D R nL X wl tgt L st) (kf : ¬ x ≤ y → jJ l D R nL X wl (pc + 3) L st) : jJ l D R nL X wl pc L (.int y :: .int x :: st) :=
  fun H locs ls hP hD hS hl => lv_icmp_le hF.1 hF.2.1 hd ht (fun h => kt h H locs ls hP hD hS hl) (fun h => kf h H locs ls hP hD hS hl)
theorem jq_goto (hF : jF D R nL X cc own Ts tys ret) {off : Int} (tgt : Nat) (hd : decode cc pc = .ok (.goto off, 3)) (ht : (pc : Int) + off = (tgt : Int)) (k : jJ l D R nL X wl tgt L st) : jJ l D R nL X wl pc L st :=
  fun H locs ls hP hD hS hl => lv_goto hF.1 hF.2.1 hd ht (k H locs ls hP hD hS hl)
/-- the value on top, written otherwise -/
theorem jq_top {x : Int32} (y : Int32) (h : x = y) (k : jJ l D R nL X wl pc L (.int y :: st)) : jJ l D R nL X wl pc L (.int x :: st) := h ▸ k
theorem jq_topl {x : Int64} (y : Int64) (h : x = y) (k : jJ l D R nL X wl pc L (.long y :: st)) : jJ l D R nL X wl pc L (.long x :: st) := h ▸ k
theorem jq_w (wl' : va_W) (h : wl = wl') (k : jJ l D R nL X wl' pc L st) : jJ l D R nL X wl pc L st := h ▸ k
theorem jq_at {wl' : va_W} {pc' : Nat} {L' : List (Nat × Value)} {st' : List Value} (h : jJ l D R nL X wl' pc' L' st') (h1 : wl' = wl) (h2 : pc' = pc) (h3 : L' = L) (h4 : st' = st) : jJ l D R nL X wl pc L st := by subst h1; subst h2; subst h3; subst h4; exact h
theorem jq_iald (hF : jF D R nL X cc own Ts tys ret) (q0 t0 : Nat) {a : Nat} {cA : ClassId} {n : Nat} {f : Nat → Int32} {i : Int32} (ha : wl[q0]? = some (a, .inl (cA, n, .inl f))) (ht : tys[t0]? = some (cA, .int)) (hin : vp_in i n) (hd : decode cc pc = .ok (.iaload, 1)) (k : jJ l D R nL X wl (pc + 1) L (.int (f i.toNatClampNeg) :: st)) : jJ l D R nL X wl pc L (.int i :: .ref a :: st) :=
  fun H locs ls hP hD hS hl => va_iald hF.1 hF.2.1 hF.2.2.2.2.2.1 hP q0 t0 ha ht hin hd (k H locs ls hP hD hS hl)
theorem jq_ialdN (hF : jF D R nL X cc own Ts tys ret) (q0 t0 : Nat) {a : Nat} {cA : ClassId} {n : Nat} {f : Nat → Int32} {i : Nat} (ha : wl[q0]? = some (a, .inl (cA, n, .inl f))) (ht : tys[t0]? = some (cA, .int)) (hn : n < 2 ^ 31) (hin : i < n) (hd : decode cc pc = .ok (.iaload, 1)) (k : jJ l D R nL X wl (pc + 1) L (.int (f i) :: st)) : jJ l D R nL X wl pc L (.int (nI i) :: .ref a :: st) :=
  jq_iald hF q0 t0 ha ht (vp_in_nI hin hn) hd (by rw [nI_clamp (Nat.lt_trans hin hn)]; exact k)
theorem jq_zald (hF : jF D R nL X cc own Ts tys ret) (q0 t0 : Nat) {a : Nat} {cA : ClassId} {n : Nat} {f : Nat → Int32} {i : Int32} (ha : wl[q0]? = some (a, .inl (cA, n, .inl f))) (ht : tys[t0]? = some (cA, .boolean)) (hin : vp_in i n) (hd : decode cc pc = .ok (.baload, 1)) (k : jJ l D R nL X wl (pc + 1) L (.int (f i.toNatClampNeg) :: st)) : jJ l D R nL X wl pc L (.int i :: .ref a :: st) :=
  fun H locs ls hP hD hS hl => va_zald hF.1 hF.2.1 hF.2.2.2.2.2.1 hP q0 t0 ha ht hin hd (k H locs ls hP hD hS hl)
theorem jq_zaldN (hF : jF D R nL X cc own Ts tys ret) (q0 t0 : Nat) {a : Nat} {cA : ClassId} {n : Nat} {f : Nat → Int32} {i : Nat} (ha : wl[q0]? = some (a, .inl (cA, n, .inl f))) (ht : tys[t0]? = some (cA, .boolean)) (hn : n < 2 ^ 31) (hin : i < n) (hd : decode cc pc = .ok (.baload, 1)) (k : jJ l D R nL X wl (pc + 1) L (.int (f i) :: st)) : jJ l D R nL X wl pc L (.int (nI i) :: .ref a :: st) :=
  jq_zald hF q0 t0 ha ht (vp_in_nI hin hn) hd (by rw [nI_clamp (Nat.lt_trans hin hn)]; exact k)
theorem jq_iast (hF : jF D R nL X cc own Ts tys ret) (q0 t0 : Nat) {a : Nat} {cA : ClassId} {n : Nat} {f : Nat → Int32} {i x : Int32} (wl' : va_W) (ha : wl[q0]? = some (a, .inl (cA, n, .inl f))) (ht : tys[t0]? = some (cA, .int)) (hin : vp_in i n) (hw : wl.set q0 (a, .inl (cA, n, .inl (upd f i.toNatClampNeg x))) = wl') (hd : decode cc pc = .ok (.iastore, 1)) (k : jJ l D R nL X wl' (pc + 1) L st) : jJ l D R nL X wl pc L (.int x :: .int i :: .ref a :: st) :=
  fun H locs ls hP hD hS hl => va_iast hF.1 hF.2.1 hF.2.2.2.2.2.1 hP hD hS q0 t0 ha ht hin hd (fun H1 locs1 hP1 hD1 hS1 => k H1 locs1 ls (hw ▸ hP1) (hw ▸ hD1) hS1 hl)
theorem jq_iastN (hF : jF D R nL X cc own Ts tys ret) (q0 t0 : Nat) {a : Nat} {cA : ClassId} {n : Nat} {f : Nat → Int32} {i : Nat} {x : Int32} (wl' : va_W) (ha : wl[q0]? = some (a, .inl (cA, n, .inl f))) (ht : tys[t0]? = some (cA, .int)) (hn : n < 2 ^ 31) (hin : i < n) (hw : wl.set q0 (a, .inl (cA, n, .inl (upd f i x))) = wl') (hd : decode cc pc = .ok (.iastore, 1)) (k : jJ l D R nL X wl' (pc + 1) L st) : jJ l D R nL X wl pc L (.int x :: .int (nI i) :: .ref a :: st) :=
  jq_iast hF q0 t0 wl' ha ht (vp_in_nI hin hn) (by rw [nI_clamp (Nat.lt_trans hin hn)]; exact hw) hd k
theorem jq_zast (hF : jF D R nL X cc own Ts tys ret) (q0 t0 : Nat) {a : Nat} {cA : ClassId} {n : Nat} {f : Nat → Int32} {i x : Int32} (wl' : va_W) (ha : wl[q0]? = some (a, .inl (cA, n, .inl f))) (ht : tys[t0]? = some (cA, .boolean)) (hin : vp_in i n) (hw : wl.set q0 (a, .inl (cA, n, .inl (upd f i.toNatClampNeg (vp_nar .boolean x)))) = wl') (hd : decode cc pc = .ok (.bastore, 1)) (k : jJ l D R nL X wl' (pc + 1) L st) : jJ l D R nL X wl pc L (.int x :: .int i :: .ref a :: st) :=
  fun H locs ls hP hD hS hl => va_zast hF.1 hF.2.1 hF.2.2.2.2.2.1 hP hD hS q0 t0 ha ht hin hd (fun H1 locs1 hP1 hD1 hS1 => k H1 locs1 ls (hw ▸ hP1) (hw ▸ hD1) hS1 hl)
theorem jq_zastN (hF : jF D R nL X cc own Ts tys ret) (q0 t0 : Nat) {a : Nat} {cA : ClassId} {n : Nat} {f : Nat → Int32} {i : Nat} {x : Int32} (wl' : va_W) (ha : wl[q0]? = some (a, .inl (cA, n, .inl f))) (ht : tys[t0]? = some (cA, .boolean)) (hn : n < 2 ^ 31) (hin : i < n) (hw : wl.set q0 (a, .inl (cA, n, .inl (upd f i (vp_nar .boolean x)))) = wl') (hd : decode cc pc = .ok (.bastore, 1)) (k : jJ l D R nL X wl' (pc + 1) L st) : jJ l D R nL X wl pc L (.int x :: .int (nI i) :: .ref a :: st) :=
  jq_zast hF q0 t0 wl' ha ht (vp_in_nI hin hn) (by rw [nI_clamp (Nat.lt_trans hin hn)]; exact hw) hd k
theorem jq_alen (hF : jF D R nL X cc own Ts tys ret) (q0 t0 : Nat) {a : Nat} {cA : ClassId} {x : vp_A} {ty : FieldType} (ha : wl[q0]? = some (a, .inl (cA, x))) (ht : tys[t0]? = some (cA, ty)) (hd : decode cc pc = .ok (.arraylength, 1)) (k : jJ l D R nL X wl (pc + 1) L (.int (nI x.1) :: st)) : jJ l D R nL X wl pc L (.ref a :: st) :=
  fun H locs ls hP hD hS hl => va_alen hF.1 hF.2.1 hF.2.2.2.2.2.1 hP q0 t0 ha ht rfl hd (k H locs ls hP hD hS hl)
theorem jq_get (hF : jF D R nL X cc own Ts tys ret) {C : String} {T : u_T} {N ci index : Nat} {a : Nat} {fs : List Value} {v : Value} (hin : ∀ w ∈ u_ws C T N, w ∈ Ts) (q0 : Nat) (he : wl[q0]? = some (a, .inr (ci, fs))) (hc : vwCl[ci]? = some (C, T, N)) (k0 : Nat) (hk : k0 < N) (hlink : Cond.fieldLink own index (T k0).1 (T k0).2.1 (T k0).2.2.1 ∈ Ts) (hv : fs[k0]? = some v) (hd : decode cc pc = .ok (.getfield index, 3)) (k : jJ l D R nL X wl (pc + 3) L (v :: st)) : jJ l D R nL X wl pc L (.ref a :: st) :=
  fun H locs ls hP hD hS hl => va_get hF.1 hF.2.1 hF.2.2.2.2.1 hin hF.2.2.2.1 hF.2.2.2.2.2.1 hP q0 he hc k0 hk (hF.2.2.2.2.1 _ hlink) (fun _ h9 => h9) hv hd (k H locs ls hP hD hS hl)
theorem jq_put (hF : jF D R nL X cc own Ts tys ret) {C : String} {T : u_T} {N ci index : Nat} {a : Nat} {fs : List Value} {v : Value} {ty : FieldType} (wl' : va_W) (hin : ∀ w ∈ u_ws C T N, w ∈ Ts) (ty0 : Nat → FieldType) (hty : ∀ k, k < N → parseFieldDescriptor (T k).2.2.1 = some (ty0 k)) (hnm : ∀ a, a < N → ∀ b, b < N → a ≠ b → (T a).2.1 ≠ (T b).2.1) (q0 : Nat) (he : wl[q0]? = some (a, .inr (ci, fs))) (hc : vwCl[ci]? = some (C, T, N)) (k0 : Nat) (hk : k0 < N) (hlink : Cond.fieldLink own index (T k0).1 (T k0).2.1 (T k0).2.2.1 ∈ Ts) (hfin : (T k0).2.2.2 = false) (hdesc : parseFieldDescriptor (T k0).2.2.1 = some ty) (hn : narrow ty v = v) (hfit : fits ty v = true) (hlen : k0 < fs.length) (hw : wl.set q0 (a, .inr (ci, fs.set k0 v)) = wl') (hd : decode cc pc = .ok (.putfield index, 3)) (k : jJ l D R nL X wl' (pc + 3) L st) : jJ l D R nL X wl pc L (v :: .ref a :: st) :=
  fun H locs ls hP hD hS hl => va_put hF.1 hF.2.1 hF.2.2.2.2.1 hin ty0 hty hnm hF.2.2.2.1 hF.2.2.2.2.2.1 hP hD hS q0 he hc k0 hk (hF.2.2.2.2.1 _ hlink) (fun _ h9 => h9) hfin hdesc hn hfit hlen hd (fun H1 locs1 hP1 hD1 hS1 => k H1 locs1 ls (hw ▸ hP1) (hw ▸ hD1) hS1 hl)
end JQ
