/-! rows over numbers -/
section JN
variable {l : Launch} {D : va_G} {R : Room} {nL : Nat} {X : jX} {cc : ByteArray} {own : String} {Ts : List Cond} {tys : List (ClassId × FieldType)} {ret : Option FieldType} {wl : va_W} {pc : Nat} {L : List (Nat × Value)} {st : List Value}
theorem jq_iaddN (hF : jF D R nL X cc own Ts tys ret) {x y : Nat} (hd : decode cc pc = .ok (.iadd, 1)) (k : jJ l D R nL X wl (pc + 1) L (.int (nI (x + y)) :: st)) : jJ l D R nL X wl pc L (.int (nI y) :: .int (nI x) :: st) := jq_iadd hF hd (jq_top _ (nI_add x y) k)
theorem jq_imulN (hF : jF D R nL X cc own Ts tys ret) {x y : Nat} (hd : decode cc pc = .ok (.imul, 1)) (k : jJ l D R nL X wl (pc + 1) L (.int (nI (x * y)) :: st)) : jJ l D R nL X wl pc L (.int (nI y) :: .int (nI x) :: st) := jq_imul hF hd (jq_top _ (pk_mul x y) k)
theorem jq_isubN (hF : jF D R nL X cc own Ts tys ret) {x y : Nat} (h : y ≤ x) (hd : decode cc pc = .ok (.isub, 1)) (k : jJ l D R nL X wl (pc + 1) L (.int (nI (x - y)) :: st)) : jJ l D R nL X wl pc L (.int (nI y) :: .int (nI x) :: st) := jq_isub hF hd (jq_top _ (pk_sub h) k)
theorem jq_idivN (hF : jF D R nL X cc own Ts tys ret) {x y : Nat} (hx : x < 2 ^ 31) (h0 : 0 < y) (hy : y < 2 ^ 31) (hd : decode cc pc = .ok (.idiv, 1)) (k : jJ l D R nL X wl (pc + 1) L (.int (nI (x / y)) :: st)) : jJ l D R nL X wl pc L (.int (nI y) :: .int (nI x) :: st) := jq_idiv hF hd (nI_ne0 h0 hy) (jq_top _ (pk_div hx h0 hy) k)
theorem jq_iremN (hF : jF D R nL X cc own Ts tys ret) {x y : Nat} (hx : x < 2 ^ 31) (h0 : 0 < y) (hy : y < 2 ^ 31) (hd : decode cc pc = .ok (.irem, 1)) (k : jJ l D R nL X wl (pc + 1) L (.int (nI (x % y)) :: st)) : jJ l D R nL X wl pc L (.int (nI y) :: .int (nI x) :: st) := jq_irem hF hd (nI_ne0 h0 hy) (jq_top _ (pk_rem hx h0 hy) k)
theorem jq_icmp_eqN (hF : jF D R nL X cc own Ts tys ret) {x y : Nat} {off : Int} (tgt : Nat) (hx : x < 2 ^ 31) (hy : y < 2 ^ 31) (hd : decode cc pc = .ok (.if_icmp .eq off, 3)) (ht : (pc : Int) + off = (tgt : Int)) (kt : x = y → jJ l D R nL X wl tgt L st) (kf : ¬ x = y → jJ l D R nL X wl (pc + 3) L st) : jJ l D R nL X wl pc L (.int (nI y) :: .int (nI x) :: st) :=
  jq_icmp_eq hF tgt hd ht (fun h => kt ((nI_eq hx hy).mp h)) (fun h => kf (fun e => h ((nI_eq hx hy).mpr e)))
theorem jq_icmp_ltN (hF : jF D R nL X cc own Ts tys ret) {x y : Nat} {off : Int} (tgt : Nat) (hx : x < 2 ^ 31) (hy : y < 2 ^ 31) (hd : decode cc pc = .ok (.if_icmp .lt off, 3)) (ht : (pc : Int) + off = (tgt : Int)) (kt : x < y → jJ l D R nL X wl tgt L st) (kf : y ≤ x → jJ l D R nL X wl (pc + 3) L st) : jJ l D R nL X wl pc L (.int (nI y) :: .int (nI x) :: st) :=
  jq_icmp_lt hF tgt hd ht (fun h => kt ((nI_ltI hx hy).mp h)) (fun h => kf (Nat.le_of_not_lt (fun e => h ((nI_ltI hx hy).mpr e))))
theorem jq_icmp_leN (hF : jF D R nL X cc own Ts tys ret) {x y : Nat} {off : Int} (tgt : Nat) (hx : x < 2 ^ 31) (hy : y < 2 ^ 31) (hd : decode cc pc = .ok (.if_icmp .le off, 3)) (ht : (pc : Int) + off = (tgt : Int)) (kt : x ≤ y → jJ l D R nL X wl tgt L st) (kf : y < x → jJ l D R nL X wl (pc + 3) L st) : jJ l D R nL X wl pc L (.int (nI y) :: .int (nI x) :: st) :=
  jq_icmp_le hF tgt hd ht (fun h => kt ((nI_leI hx hy).mp h)) (fun h => kf (Nat.lt_of_not_le (fun e => h ((nI_leI hx hy).mpr e))))
theorem jq_icmp_geN (hF : jF D R nL X cc own Ts tys ret) {x y : Nat} {off : Int} (tgt : Nat) (hx : x < 2 ^ 31) (hy : y < 2 ^ 31) (hd : decode cc pc = .ok (.if_icmp .ge off, 3)) (ht : (pc : Int) + off = (tgt : Int)) (kt : y ≤ x → jJ l D R nL X wl tgt L st) (kf : x < y → jJ l D R nL X wl (pc + 3) L st) : jJ l D R nL X wl pc L (.int (nI y) :: .int (nI x) :: st) :=
  jq_icmp_ge hF tgt hd ht (fun h => kt ((nI_leI hy hx).mp h)) (fun h => kf (Nat.lt_of_not_le (fun e => h ((nI_leI hy hx).mpr e))))
theorem jq_icmp_gtN (hF : jF D R nL X cc own Ts tys ret) {x y : Nat} {off : Int} (tgt : Nat) (hx : x < 2 ^ 31) (hy : y < 2 ^ 31) (hd : decode cc pc = .ok (.if_icmp .gt off, 3)) (ht : (pc : Int) + off = (tgt : Int)) (kt : y < x → jJ l D R nL X wl tgt L st) (kf : x ≤ y → jJ l D R nL X wl (pc + 3) L st) : jJ l D R nL X wl pc L (.int (nI y) :: .int (nI x) :: st) :=
  jq_icmp_gt hF tgt hd ht (fun h => kt ((nI_ltI hy hx).mp h)) (fun h => kf (Nat.le_of_not_lt (fun e => h ((nI_ltI hy hx).mpr e))))
theorem jq_icmp_neN (hF : jF D R nL X cc own Ts tys ret) {x y : Nat} {off : Int} (tgt : Nat) (hx : x < 2 ^ 31) (hy : y < 2 ^ 31) (hd : decode cc pc = .ok (.if_icmp .ne off, 3)) (ht : (pc : Int) + off = (tgt : Int)) (kt : ¬ x = y → jJ l D R nL X wl tgt L st) (kf : x = y → jJ l D R nL X wl (pc + 3) L st) : jJ l D R nL X wl pc L (.int (nI y) :: .int (nI x) :: st) :=
  jq_icmp_ne hF tgt hd ht (fun h => kt (fun e => h ((nI_eq hx hy).mpr e))) (fun h => kf ((nI_eq hx hy).mp h))
theorem jq_if_eqB (hF : jF D R nL X cc own Ts tys ret) {b : Bool} {off : Int} (tgt : Nat) (hd : decode cc pc = .ok (.ifCond .eq off, 3)) (ht : (pc : Int) + off = (tgt : Int)) (kt : b = false → jJ l D R nL X wl tgt L st) (kf : b = true → jJ l D R nL X wl (pc + 3) L st) : jJ l D R nL X wl pc L (.int (bI b) :: st) :=
  jq_if_eq hF tgt hd ht (fun h => kt (bI_0.mp h)) (fun h => kf (by cases b <;> first | rfl | exact absurd rfl h))
theorem jq_if_neB (hF : jF D R nL X cc own Ts tys ret) {b : Bool} {off : Int} (tgt : Nat) (hd : decode cc pc = .ok (.ifCond .ne off, 3)) (ht : (pc : Int) + off = (tgt : Int)) (kt : b = true → jJ l D R nL X wl tgt L st) (kf : b = false → jJ l D R nL X wl (pc + 3) L st) : jJ l D R nL X wl pc L (.int (bI b) :: st) :=
  jq_if_ne hF tgt hd ht (fun h => kt (by cases b <;> first | rfl | exact absurd rfl h)) (fun h => kf (bI_0.mp h))
theorem jq_if_geL (hF : jF D R nL X cc own Ts tys ret) {x y : Int64} {off : Int} (tgt : Nat) (hd : decode cc pc = .ok (.ifCond .ge off, 3)) (ht : (pc : Int) + off = (tgt : Int)) (kt : y ≤ x → jJ l D R nL X wl tgt L st) (kf : ¬ y ≤ x → jJ l D R nL X wl (pc + 3) L st) : jJ l D R nL X wl pc L (.int (lg_cmp x y) :: st) :=
  jq_if_ge hF tgt hd ht (fun h => kt ((lg_cmp_ge x y).mp h)) (fun h => kf (fun e => h ((lg_cmp_ge x y).mpr e)))
theorem jq_if_leL (hF : jF D R nL X cc own Ts tys ret) {x y : Int64} {off : Int} (tgt : Nat) (hd : decode cc pc = .ok (.ifCond .le off, 3)) (ht : (pc : Int) + off = (tgt : Int)) (kt : x ≤ y → jJ l D R nL X wl tgt L st) (kf : ¬ x ≤ y → jJ l D R nL X wl (pc + 3) L st) : jJ l D R nL X wl pc L (.int (lg_cmp x y) :: st) :=
  jq_if_le hF tgt hd ht (fun h => kt ((lg_cmp_le x y).mp h)) (fun h => kf (fun e => h ((lg_cmp_le x y).mpr e)))
theorem jq_if_gtL (hF : jF D R nL X cc own Ts tys ret) {x y : Int64} {off : Int} (tgt : Nat) (hd : decode cc pc = .ok (.ifCond .gt off, 3)) (ht : (pc : Int) + off = (tgt : Int)) (kt : y < x → jJ l D R nL X wl tgt L st) (kf : ¬ y < x → jJ l D R nL X wl (pc + 3) L st) : jJ l D R nL X wl pc L (.int (lg_cmp x y) :: st) :=
  jq_if_gt hF tgt hd ht (fun h => kt ((lg_cmp_gt x y).mp h)) (fun h => kf (fun e => h ((lg_cmp_gt x y).mpr e)))
theorem jq_if_ltL (hF : jF D R nL X cc own Ts tys ret) {x y : Int64} {off : Int} (tgt : Nat) (hd : decode cc pc = .ok (.ifCond .lt off, 3)) (ht : (pc : Int) + off = (tgt : Int)) (kt : x < y → jJ l D R nL X wl tgt L st) (kf : ¬ x < y → jJ l D R nL X wl (pc + 3) L st) : jJ l D R nL X wl pc L (.int (lg_cmp x y) :: st) :=
  jq_if_lt hF tgt hd ht (fun h => kt ((lg_cmp_lt x y).mp h)) (fun h => kf (fun e => h ((lg_cmp_lt x y).mpr e)))
theorem jq_iincN (hF : jF D R nL X cc own Ts tys ret) {i : Nat} (j : Nat) {x : Nat} (L' : List (Nat × Value)) (hd : decode cc pc = .ok (.iinc i 1, 3)) (hj : L[j]? = some (i, .int (nI x))) (hn : i < nL) (hL : L' = (i, Value.int (nI (x + 1))) :: L.filter (fun q => !(q.1 == i) && !(q.1 + 1 == i && q.2.category == 2))) (k : jJ l D R nL X wl (pc + 3) L' st) : jJ l D R nL X wl pc L st :=
  jq_iinc hF j L' hd hj (by rw [nI_succ]; rfl) hn hL k
end JN
def rmD (d : Nat) : Room := { frames := d, cells := 0, slots := 0, locals := 40 * d }
theorem ic_m1 : Int32.ofInt (-1) = (-1) := by decide +kernel
theorem ic_0 : Int32.ofInt (0) = nI 0 := by decide +kernel
theorem ic_1 : Int32.ofInt (1) = nI 1 := by decide +kernel
theorem ic_2 : Int32.ofInt (2) = nI 2 := by decide +kernel
theorem ic_3 : Int32.ofInt (3) = nI 3 := by decide +kernel
theorem ic_4 : Int32.ofInt (4) = nI 4 := by decide +kernel
theorem ic_5 : Int32.ofInt (5) = nI 5 := by decide +kernel
theorem bi_6 : (Int8.ofInt (6)).toInt32 = nI 6 := by decide +kernel
theorem bi_7 : (Int8.ofInt (7)).toInt32 = nI 7 := by decide +kernel
theorem bi_8 : (Int8.ofInt (8)).toInt32 = nI 8 := by decide +kernel
theorem bi_9 : (Int8.ofInt (9)).toInt32 = nI 9 := by decide +kernel
theorem bi_10 : (Int8.ofInt (10)).toInt32 = nI 10 := by decide +kernel
theorem bi_12 : (Int8.ofInt (12)).toInt32 = nI 12 := by decide +kernel
theorem bi_15 : (Int8.ofInt (15)).toInt32 = nI 15 := by decide +kernel
theorem bi_20 : (Int8.ofInt (20)).toInt32 = nI 20 := by decide +kernel
theorem bi_24 : (Int8.ofInt (24)).toInt32 = nI 24 := by decide +kernel
theorem bi_28 : (Int8.ofInt (28)).toInt32 = nI 28 := by decide +kernel
theorem bi_31 : (Int8.ofInt (31)).toInt32 = nI 31 := by decide +kernel
theorem bi_40 : (Int8.ofInt (40)).toInt32 = nI 40 := by decide +kernel
theorem bi_48 : (Int8.ofInt (48)).toInt32 = nI 48 := by decide +kernel
theorem bi_60 : (Int8.ofInt (60)).toInt32 = nI 60 := by decide +kernel
theorem bi_61 : (Int8.ofInt (61)).toInt32 = nI 61 := by decide +kernel
theorem bi_64 : (Int8.ofInt (64)).toInt32 = nI 64 := by decide +kernel
theorem si_144 : (Int16.ofInt (144)).toInt32 = nI 144 := by decide +kernel
theorem si_168 : (Int16.ofInt (168)).toInt32 = nI 168 := by decide +kernel
theorem si_2048 : (Int16.ofInt (2048)).toInt32 = nI 2048 := by decide +kernel
theorem dd_N_init : yN_init.cls = rN ∧ yN_init.cls ≠ "java/lang/invoke/MethodHandle" ∧ yN_init.cls ≠ "java/lang/invoke/VarHandle" ∧ (parseMethodDescriptor yN_init.desc).map (fun d => d.parameters.length) = some 3 := by decide +kernel
abbrev w_N_init : List Cond := Cond.code yN_init cN_init 4 none :: jG
theorem dd_N_nearest : yN_nearest.cls = rN ∧ yN_nearest.cls ≠ "java/lang/invoke/MethodHandle" ∧ yN_nearest.cls ≠ "java/lang/invoke/VarHandle" ∧ (parseMethodDescriptor yN_nearest.desc).map (fun d => d.parameters.length) = some 3 := by decide +kernel
abbrev w_N_nearest : List Cond := Cond.code yN_nearest cN_nearest 3 (some .int) :: jG
theorem dd_H_min : yH_min.cls = rH ∧ yH_min.cls ≠ "java/lang/invoke/MethodHandle" ∧ yH_min.cls ≠ "java/lang/invoke/VarHandle" ∧ (parseMethodDescriptor yH_min.desc).map (fun d => d.parameters.length) = some 2 := by decide +kernel
abbrev w_H_min : List Cond := Cond.code yH_min cH_min 2 (some .int) :: jG
theorem dd_H_max : yH_max.cls = rH ∧ yH_max.cls ≠ "java/lang/invoke/MethodHandle" ∧ yH_max.cls ≠ "java/lang/invoke/VarHandle" ∧ (parseMethodDescriptor yH_max.desc).map (fun d => d.parameters.length) = some 2 := by decide +kernel
abbrev w_H_max : List Cond := Cond.code yH_max cH_max 2 (some .int) :: jG
theorem dd_P_init : yP_init.cls = rP ∧ yP_init.cls ≠ "java/lang/invoke/MethodHandle" ∧ yP_init.cls ≠ "java/lang/invoke/VarHandle" ∧ (parseMethodDescriptor yP_init.desc).map (fun d => d.parameters.length) = some 0 := by decide +kernel
abbrev w_P_init : List Cond := Cond.code yP_init cP_init 1 none :: jG
theorem dd_A_fill : yA_fill.cls = rA ∧ yA_fill.cls ≠ "java/lang/invoke/MethodHandle" ∧ yA_fill.cls ≠ "java/lang/invoke/VarHandle" ∧ (parseMethodDescriptor yA_fill.desc).map (fun d => d.parameters.length) = some 2 := by decide +kernel
abbrev w_A_fill : List Cond := Cond.code yA_fill cA_fill 4 none :: jG
theorem dd_W_init : yW_init.cls = rW ∧ yW_init.cls ≠ "java/lang/invoke/MethodHandle" ∧ yW_init.cls ≠ "java/lang/invoke/VarHandle" ∧ (parseMethodDescriptor yW_init.desc).map (fun d => d.parameters.length) = some 0 := by decide +kernel
abbrev w_W_init : List Cond := Cond.code yW_init cW_init 1 none :: jG
theorem dd_T_init : yT_init.cls = rT ∧ yT_init.cls ≠ "java/lang/invoke/MethodHandle" ∧ yT_init.cls ≠ "java/lang/invoke/VarHandle" ∧ (parseMethodDescriptor yT_init.desc).map (fun d => d.parameters.length) = some 3 := by decide +kernel
abbrev w_T_init : List Cond := Cond.code yT_init cT_init 4 none :: jG
theorem dd_B_init : yB_init.cls = rB ∧ yB_init.cls ≠ "java/lang/invoke/MethodHandle" ∧ yB_init.cls ≠ "java/lang/invoke/VarHandle" ∧ (parseMethodDescriptor yB_init.desc).map (fun d => d.parameters.length) = some 0 := by decide +kernel
abbrev w_B_init : List Cond := Cond.code yB_init cB_init 1 none :: jG
theorem dd_K_init : yK_init.cls = rK ∧ yK_init.cls ≠ "java/lang/invoke/MethodHandle" ∧ yK_init.cls ≠ "java/lang/invoke/VarHandle" ∧ (parseMethodDescriptor yK_init.desc).map (fun d => d.parameters.length) = some 4 := by decide +kernel
abbrev w_K_init : List Cond := Cond.code yK_init cK_init 5 none :: jG
theorem dd_N_bridge : yN_bridge.cls = rN ∧ yN_bridge.cls ≠ "java/lang/invoke/MethodHandle" ∧ yN_bridge.cls ≠ "java/lang/invoke/VarHandle" ∧ (parseMethodDescriptor yN_bridge.desc).map (fun d => d.parameters.length) = some 1 := by decide +kernel
abbrev w_N_bridge : List Cond := Cond.code yN_bridge cN_bridge 3 (some .int) :: jG
theorem dd_N_isWithin : yN_isWithin.cls = rN ∧ yN_isWithin.cls ≠ "java/lang/invoke/MethodHandle" ∧ yN_isWithin.cls ≠ "java/lang/invoke/VarHandle" ∧ (parseMethodDescriptor yN_isWithin.desc).map (fun d => d.parameters.length) = some 3 := by decide +kernel
abbrev w_N_isWithin : List Cond := Cond.code yN_isWithin cN_isWithin 3 (some .boolean) :: jG
theorem dd_P_addBridge : yP_addBridge.cls = rP ∧ yP_addBridge.cls ≠ "java/lang/invoke/MethodHandle" ∧ yP_addBridge.cls ≠ "java/lang/invoke/VarHandle" ∧ (parseMethodDescriptor yP_addBridge.desc).map (fun d => d.parameters.length) = some 1 := by decide +kernel
abbrev w_P_addBridge : List Cond := Cond.code yP_addBridge cP_addBridge 3 (some .int) :: jG
theorem dd_T_settle : yT_settle.cls = rT ∧ yT_settle.cls ≠ "java/lang/invoke/MethodHandle" ∧ yT_settle.cls ≠ "java/lang/invoke/VarHandle" ∧ (parseMethodDescriptor yT_settle.desc).map (fun d => d.parameters.length) = some 0 := by decide +kernel
abbrev w_T_settle : List Cond := Cond.code yT_settle cT_settle 4 none :: jG
theorem dd_T_chooseRoots : yT_chooseRoots.cls = rT ∧ yT_chooseRoots.cls ≠ "java/lang/invoke/MethodHandle" ∧ yT_chooseRoots.cls ≠ "java/lang/invoke/VarHandle" ∧ (parseMethodDescriptor yT_chooseRoots.desc).map (fun d => d.parameters.length) = some 0 := by decide +kernel
abbrev w_T_chooseRoots : List Cond := Cond.code yT_chooseRoots cT_chooseRoots 3 none :: jG
theorem dd_T_bestOffer : yT_bestOffer.cls = rT ∧ yT_bestOffer.cls ≠ "java/lang/invoke/MethodHandle" ∧ yT_bestOffer.cls ≠ "java/lang/invoke/VarHandle" ∧ (parseMethodDescriptor yT_bestOffer.desc).map (fun d => d.parameters.length) = some 1 := by decide +kernel
abbrev w_T_bestOffer : List Cond := Cond.code yT_bestOffer cT_bestOffer 4 (some .int) :: jG
theorem dd_T_isOffering : yT_isOffering.cls = rT ∧ yT_isOffering.cls ≠ "java/lang/invoke/MethodHandle" ∧ yT_isOffering.cls ≠ "java/lang/invoke/VarHandle" ∧ (parseMethodDescriptor yT_isOffering.desc).map (fun d => d.parameters.length) = some 1 := by decide +kernel
abbrev w_T_isOffering : List Cond := Cond.code yT_isOffering cT_isOffering 2 (some .boolean) :: jG
theorem dd_P_hasWholeWire : yP_hasWholeWire.cls = rP ∧ yP_hasWholeWire.cls ≠ "java/lang/invoke/MethodHandle" ∧ yP_hasWholeWire.cls ≠ "java/lang/invoke/VarHandle" ∧ (parseMethodDescriptor yP_hasWholeWire.desc).map (fun d => d.parameters.length) = some 1 := by decide +kernel
abbrev w_P_hasWholeWire : List Cond := Cond.code yP_hasWholeWire cP_hasWholeWire 2 (some .boolean) :: jG
theorem dd_T_offerRank : yT_offerRank.cls = rT ∧ yT_offerRank.cls ≠ "java/lang/invoke/MethodHandle" ∧ yT_offerRank.cls ≠ "java/lang/invoke/VarHandle" ∧ (parseMethodDescriptor yT_offerRank.desc).map (fun d => d.parameters.length) = some 1 := by decide +kernel
abbrev w_T_offerRank : List Cond := Cond.code yT_offerRank cT_offerRank 3 (some .long) :: jG
theorem dd_T_offeredCost : yT_offeredCost.cls = rT ∧ yT_offeredCost.cls ≠ "java/lang/invoke/MethodHandle" ∧ yT_offeredCost.cls ≠ "java/lang/invoke/VarHandle" ∧ (parseMethodDescriptor yT_offeredCost.desc).map (fun d => d.parameters.length) = some 1 := by decide +kernel
abbrev w_T_offeredCost : List Cond := Cond.code yT_offeredCost cT_offeredCost 3 (some .int) :: jG
theorem dd_T_rank : yT_rank.cls = rT ∧ yT_rank.cls ≠ "java/lang/invoke/MethodHandle" ∧ yT_rank.cls ≠ "java/lang/invoke/VarHandle" ∧ (parseMethodDescriptor yT_rank.desc).map (fun d => d.parameters.length) = some 4 := by decide +kernel
abbrev w_T_rank : List Cond := Cond.code yT_rank cT_rank 8 (some .long) :: jG
theorem dd_T_lookAtRole : yT_lookAtRole.cls = rT ∧ yT_lookAtRole.cls ≠ "java/lang/invoke/MethodHandle" ∧ yT_lookAtRole.cls ≠ "java/lang/invoke/VarHandle" ∧ (parseMethodDescriptor yT_lookAtRole.desc).map (fun d => d.parameters.length) = some 1 := by decide +kernel
abbrev w_T_lookAtRole : List Cond := Cond.code yT_lookAtRole cT_lookAtRole 3 none :: jG
theorem dd_T_roleNow : yT_roleNow.cls = rT ∧ yT_roleNow.cls ≠ "java/lang/invoke/MethodHandle" ∧ yT_roleNow.cls ≠ "java/lang/invoke/VarHandle" ∧ (parseMethodDescriptor yT_roleNow.desc).map (fun d => d.parameters.length) = some 1 := by decide +kernel
abbrev w_T_roleNow : List Cond := Cond.code yT_roleNow cT_roleNow 5 (some .int) :: jG
theorem dd_P_isUp : yP_isUp.cls = rP ∧ yP_isUp.cls ≠ "java/lang/invoke/MethodHandle" ∧ yP_isUp.cls ≠ "java/lang/invoke/VarHandle" ∧ (parseMethodDescriptor yP_isUp.desc).map (fun d => d.parameters.length) = some 1 := by decide +kernel
abbrev w_P_isUp : List Cond := Cond.code yP_isUp cP_isUp 2 (some .boolean) :: jG
theorem dd_T_messageRank : yT_messageRank.cls = rT ∧ yT_messageRank.cls ≠ "java/lang/invoke/MethodHandle" ∧ yT_messageRank.cls ≠ "java/lang/invoke/VarHandle" ∧ (parseMethodDescriptor yT_messageRank.desc).map (fun d => d.parameters.length) = some 1 := by decide +kernel
abbrev w_T_messageRank : List Cond := Cond.code yT_messageRank cT_messageRank 3 (some .long) :: jG
theorem dd_T_isActive : yT_isActive.cls = rT ∧ yT_isActive.cls ≠ "java/lang/invoke/MethodHandle" ∧ yT_isActive.cls ≠ "java/lang/invoke/VarHandle" ∧ (parseMethodDescriptor yT_isActive.desc).map (fun d => d.parameters.length) = some 1 := by decide +kernel
abbrev w_T_isActive : List Cond := Cond.code yT_isActive cT_isActive 1 (some .boolean) :: jG
theorem dd_T_stateNow : yT_stateNow.cls = rT ∧ yT_stateNow.cls ≠ "java/lang/invoke/MethodHandle" ∧ yT_stateNow.cls ≠ "java/lang/invoke/VarHandle" ∧ (parseMethodDescriptor yT_stateNow.desc).map (fun d => d.parameters.length) = some 1 := by decide +kernel
abbrev w_T_stateNow : List Cond := Cond.code yT_stateNow cT_stateNow 3 (some .int) :: jG
theorem dd_T_isWorthNotice : yT_isWorthNotice.cls = rT ∧ yT_isWorthNotice.cls ≠ "java/lang/invoke/MethodHandle" ∧ yT_isWorthNotice.cls ≠ "java/lang/invoke/VarHandle" ∧ (parseMethodDescriptor yT_isWorthNotice.desc).map (fun d => d.parameters.length) = some 2 := by decide +kernel
abbrev w_T_isWorthNotice : List Cond := Cond.code yT_isWorthNotice cT_isWorthNotice 4 (some .boolean) :: jG
theorem dd_N_wire : yN_wire.cls = rN ∧ yN_wire.cls ≠ "java/lang/invoke/MethodHandle" ∧ yN_wire.cls ≠ "java/lang/invoke/VarHandle" ∧ (parseMethodDescriptor yN_wire.desc).map (fun d => d.parameters.length) = some 3 := by decide +kernel
abbrev w_N_wire : List Cond := Cond.code yN_wire cN_wire 5 (some .int) :: jG
theorem dd_P_isFree : yP_isFree.cls = rP ∧ yP_isFree.cls ≠ "java/lang/invoke/MethodHandle" ∧ yP_isFree.cls ≠ "java/lang/invoke/VarHandle" ∧ (parseMethodDescriptor yP_isFree.desc).map (fun d => d.parameters.length) = some 1 := by decide +kernel
abbrev w_P_isFree : List Cond := Cond.code yP_isFree cP_isFree 2 (some .boolean) :: jG
theorem dd_P_isPlace : yP_isPlace.cls = rP ∧ yP_isPlace.cls ≠ "java/lang/invoke/MethodHandle" ∧ yP_isPlace.cls ≠ "java/lang/invoke/VarHandle" ∧ (parseMethodDescriptor yP_isPlace.desc).map (fun d => d.parameters.length) = some 1 := by decide +kernel
abbrev w_P_isPlace : List Cond := Cond.code yP_isPlace cP_isPlace 2 (some .boolean) :: jG
theorem dd_P_addWire : yP_addWire.cls = rP ∧ yP_addWire.cls ≠ "java/lang/invoke/MethodHandle" ∧ yP_addWire.cls ≠ "java/lang/invoke/VarHandle" ∧ (parseMethodDescriptor yP_addWire.desc).map (fun d => d.parameters.length) = some 3 := by decide +kernel
abbrev w_P_addWire : List Cond := Cond.code yP_addWire cP_addWire 5 (some .int) :: jG
theorem dd_N_host : yN_host.cls = rN ∧ yN_host.cls ≠ "java/lang/invoke/MethodHandle" ∧ yN_host.cls ≠ "java/lang/invoke/VarHandle" ∧ (parseMethodDescriptor yN_host.desc).map (fun d => d.parameters.length) = some 2 := by decide +kernel
abbrev w_N_host : List Cond := Cond.code yN_host cN_host 4 (some .int) :: jG
theorem dd_N_isNetwork : yN_isNetwork.cls = rN ∧ yN_isNetwork.cls ≠ "java/lang/invoke/MethodHandle" ∧ yN_isNetwork.cls ≠ "java/lang/invoke/VarHandle" ∧ (parseMethodDescriptor yN_isNetwork.desc).map (fun d => d.parameters.length) = some 1 := by decide +kernel
abbrev w_N_isNetwork : List Cond := Cond.code yN_isNetwork cN_isNetwork 1 (some .boolean) :: jG
theorem dd_P_addHost : yP_addHost.cls = rP ∧ yP_addHost.cls ≠ "java/lang/invoke/MethodHandle" ∧ yP_addHost.cls ≠ "java/lang/invoke/VarHandle" ∧ (parseMethodDescriptor yP_addHost.desc).map (fun d => d.parameters.length) = some 2 := by decide +kernel
abbrev w_P_addHost : List Cond := Cond.code yP_addHost cP_addHost 4 (some .int) :: jG
theorem dd_N_router : yN_router.cls = rN ∧ yN_router.cls ≠ "java/lang/invoke/MethodHandle" ∧ yN_router.cls ≠ "java/lang/invoke/VarHandle" ∧ (parseMethodDescriptor yN_router.desc).map (fun d => d.parameters.length) = some 1 := by decide +kernel
abbrev w_N_router : List Cond := Cond.code yN_router cN_router 2 (some .boolean) :: jG
theorem dd_P_hasRouter : yP_hasRouter.cls = rP ∧ yP_hasRouter.cls ≠ "java/lang/invoke/MethodHandle" ∧ yP_hasRouter.cls ≠ "java/lang/invoke/VarHandle" ∧ (parseMethodDescriptor yP_hasRouter.desc).map (fun d => d.parameters.length) = some 0 := by decide +kernel
abbrev w_P_hasRouter : List Cond := Cond.code yP_hasRouter cP_hasRouter 1 (some .boolean) :: jG
theorem dd_P_addRouter : yP_addRouter.cls = rP ∧ yP_addRouter.cls ≠ "java/lang/invoke/MethodHandle" ∧ yP_addRouter.cls ≠ "java/lang/invoke/VarHandle" ∧ (parseMethodDescriptor yP_addRouter.desc).map (fun d => d.parameters.length) = some 1 := by decide +kernel
abbrev w_P_addRouter : List Cond := Cond.code yP_addRouter cP_addRouter 2 none :: jG
theorem dd_N_access : yN_access.cls = rN ∧ yN_access.cls ≠ "java/lang/invoke/MethodHandle" ∧ yN_access.cls ≠ "java/lang/invoke/VarHandle" ∧ (parseMethodDescriptor yN_access.desc).map (fun d => d.parameters.length) = some 2 := by decide +kernel
abbrev w_N_access : List Cond := Cond.code yN_access cN_access 3 (some .boolean) :: jG
theorem dd_W_makeAccess : yW_makeAccess.cls = rW ∧ yW_makeAccess.cls ≠ "java/lang/invoke/MethodHandle" ∧ yW_makeAccess.cls ≠ "java/lang/invoke/VarHandle" ∧ (parseMethodDescriptor yW_makeAccess.desc).map (fun d => d.parameters.length) = some 2 := by decide +kernel
abbrev w_W_makeAccess : List Cond := Cond.code yW_makeAccess cW_makeAccess 3 none :: jG
theorem dd_N_trunk : yN_trunk.cls = rN ∧ yN_trunk.cls ≠ "java/lang/invoke/MethodHandle" ∧ yN_trunk.cls ≠ "java/lang/invoke/VarHandle" ∧ (parseMethodDescriptor yN_trunk.desc).map (fun d => d.parameters.length) = some 3 := by decide +kernel
abbrev w_N_trunk : List Cond := Cond.code yN_trunk cN_trunk 4 (some .boolean) :: jG
theorem dd_W_makeTrunk : yW_makeTrunk.cls = rW ∧ yW_makeTrunk.cls ≠ "java/lang/invoke/MethodHandle" ∧ yW_makeTrunk.cls ≠ "java/lang/invoke/VarHandle" ∧ (parseMethodDescriptor yW_makeTrunk.desc).map (fun d => d.parameters.length) = some 3 := by decide +kernel
abbrev w_W_makeTrunk : List Cond := Cond.code yW_makeTrunk cW_makeTrunk 4 none :: jG
theorem dd_N_cut : yN_cut.cls = rN ∧ yN_cut.cls ≠ "java/lang/invoke/MethodHandle" ∧ yN_cut.cls ≠ "java/lang/invoke/VarHandle" ∧ (parseMethodDescriptor yN_cut.desc).map (fun d => d.parameters.length) = some 2 := by decide +kernel
abbrev w_N_cut : List Cond := Cond.code yN_cut cN_cut 4 (some .boolean) :: jG
theorem dd_T_dropMessage : yT_dropMessage.cls = rT ∧ yT_dropMessage.cls ≠ "java/lang/invoke/MethodHandle" ∧ yT_dropMessage.cls ≠ "java/lang/invoke/VarHandle" ∧ (parseMethodDescriptor yT_dropMessage.desc).map (fun d => d.parameters.length) = some 1 := by decide +kernel
abbrev w_T_dropMessage : List Cond := Cond.code yT_dropMessage cT_dropMessage 2 none :: jG
theorem dd_N_tick : yN_tick.cls = rN ∧ yN_tick.cls ≠ "java/lang/invoke/MethodHandle" ∧ yN_tick.cls ≠ "java/lang/invoke/VarHandle" ∧ (parseMethodDescriptor yN_tick.desc).map (fun d => d.parameters.length) = some 1 := by decide +kernel
abbrev w_N_tick : List Cond := Cond.code yN_tick cN_tick 3 (some .int) :: jG
theorem dd_T_passTime : yT_passTime.cls = rT ∧ yT_passTime.cls ≠ "java/lang/invoke/MethodHandle" ∧ yT_passTime.cls ≠ "java/lang/invoke/VarHandle" ∧ (parseMethodDescriptor yT_passTime.desc).map (fun d => d.parameters.length) = some 0 := by decide +kernel
abbrev w_T_passTime : List Cond := Cond.code yT_passTime cT_passTime 1 none :: jG
theorem dd_T_ageMessages : yT_ageMessages.cls = rT ∧ yT_ageMessages.cls ≠ "java/lang/invoke/MethodHandle" ∧ yT_ageMessages.cls ≠ "java/lang/invoke/VarHandle" ∧ (parseMethodDescriptor yT_ageMessages.desc).map (fun d => d.parameters.length) = some 0 := by decide +kernel
abbrev w_T_ageMessages : List Cond := Cond.code yT_ageMessages cT_ageMessages 2 none :: jG
theorem dd_T_passNotices : yT_passNotices.cls = rT ∧ yT_passNotices.cls ≠ "java/lang/invoke/MethodHandle" ∧ yT_passNotices.cls ≠ "java/lang/invoke/VarHandle" ∧ (parseMethodDescriptor yT_passNotices.desc).map (fun d => d.parameters.length) = some 0 := by decide +kernel
abbrev w_T_passNotices : List Cond := Cond.code yT_passNotices cT_passNotices 2 none :: jG
theorem dd_T_passNoticeOf : yT_passNoticeOf.cls = rT ∧ yT_passNoticeOf.cls ≠ "java/lang/invoke/MethodHandle" ∧ yT_passNoticeOf.cls ≠ "java/lang/invoke/VarHandle" ∧ (parseMethodDescriptor yT_passNoticeOf.desc).map (fun d => d.parameters.length) = some 1 := by decide +kernel
abbrev w_T_passNoticeOf : List Cond := Cond.code yT_passNoticeOf cT_passNoticeOf 3 none :: jG
theorem dd_T_sendMessages : yT_sendMessages.cls = rT ∧ yT_sendMessages.cls ≠ "java/lang/invoke/MethodHandle" ∧ yT_sendMessages.cls ≠ "java/lang/invoke/VarHandle" ∧ (parseMethodDescriptor yT_sendMessages.desc).map (fun d => d.parameters.length) = some 0 := by decide +kernel
abbrev w_T_sendMessages : List Cond := Cond.code yT_sendMessages cT_sendMessages 3 none :: jG
theorem dd_T_sendMessage : yT_sendMessage.cls = rT ∧ yT_sendMessage.cls ≠ "java/lang/invoke/MethodHandle" ∧ yT_sendMessage.cls ≠ "java/lang/invoke/VarHandle" ∧ (parseMethodDescriptor yT_sendMessage.desc).map (fun d => d.parameters.length) = some 2 := by decide +kernel
abbrev w_T_sendMessage : List Cond := Cond.code yT_sendMessage cT_sendMessage 6 none :: jG
theorem dd_T_isMarked : yT_isMarked.cls = rT ∧ yT_isMarked.cls ≠ "java/lang/invoke/MethodHandle" ∧ yT_isMarked.cls ≠ "java/lang/invoke/VarHandle" ∧ (parseMethodDescriptor yT_isMarked.desc).map (fun d => d.parameters.length) = some 1 := by decide +kernel
abbrev w_T_isMarked : List Cond := Cond.code yT_isMarked cT_isMarked 2 (some .boolean) :: jG
theorem dd_T_takeMessages : yT_takeMessages.cls = rT ∧ yT_takeMessages.cls ≠ "java/lang/invoke/MethodHandle" ∧ yT_takeMessages.cls ≠ "java/lang/invoke/VarHandle" ∧ (parseMethodDescriptor yT_takeMessages.desc).map (fun d => d.parameters.length) = some 0 := by decide +kernel
abbrev w_T_takeMessages : List Cond := Cond.code yT_takeMessages cT_takeMessages 2 none :: jG
theorem dd_N_forgetOldEntries : yN_forgetOldEntries.cls = rN ∧ yN_forgetOldEntries.cls ≠ "java/lang/invoke/MethodHandle" ∧ yN_forgetOldEntries.cls ≠ "java/lang/invoke/VarHandle" ∧ (parseMethodDescriptor yN_forgetOldEntries.desc).map (fun d => d.parameters.length) = some 0 := by decide +kernel
abbrev w_N_forgetOldEntries : List Cond := Cond.code yN_forgetOldEntries cN_forgetOldEntries 2 none :: jG
theorem dd_B_forget : yB_forget.cls = rB ∧ yB_forget.cls ≠ "java/lang/invoke/MethodHandle" ∧ yB_forget.cls ≠ "java/lang/invoke/VarHandle" ∧ (parseMethodDescriptor yB_forget.desc).map (fun d => d.parameters.length) = some 3 := by decide +kernel
abbrev w_B_forget : List Cond := Cond.code yB_forget cB_forget 5 none :: jG
theorem dd_N_role : yN_role.cls = rN ∧ yN_role.cls ≠ "java/lang/invoke/MethodHandle" ∧ yN_role.cls ≠ "java/lang/invoke/VarHandle" ∧ (parseMethodDescriptor yN_role.desc).map (fun d => d.parameters.length) = some 1 := by decide +kernel
abbrev w_N_role : List Cond := Cond.code yN_role cN_role 2 (some .int) :: jG
theorem dd_N_state : yN_state.cls = rN ∧ yN_state.cls ≠ "java/lang/invoke/MethodHandle" ∧ yN_state.cls ≠ "java/lang/invoke/VarHandle" ∧ (parseMethodDescriptor yN_state.desc).map (fun d => d.parameters.length) = some 1 := by decide +kernel
abbrev w_N_state : List Cond := Cond.code yN_state cN_state 2 (some .int) :: jG
theorem dd_N_root : yN_root.cls = rN ∧ yN_root.cls ≠ "java/lang/invoke/MethodHandle" ∧ yN_root.cls ≠ "java/lang/invoke/VarHandle" ∧ (parseMethodDescriptor yN_root.desc).map (fun d => d.parameters.length) = some 1 := by decide +kernel
abbrev w_N_root : List Cond := Cond.code yN_root cN_root 3 (some .int) :: jG
theorem dd_P_isBridge : yP_isBridge.cls = rP ∧ yP_isBridge.cls ≠ "java/lang/invoke/MethodHandle" ∧ yP_isBridge.cls ≠ "java/lang/invoke/VarHandle" ∧ (parseMethodDescriptor yP_isBridge.desc).map (fun d => d.parameters.length) = some 1 := by decide +kernel
abbrev w_P_isBridge : List Cond := Cond.code yP_isBridge cP_isBridge 2 (some .boolean) :: jG
theorem dd_N_held : yN_held.cls = rN ∧ yN_held.cls ≠ "java/lang/invoke/MethodHandle" ∧ yN_held.cls ≠ "java/lang/invoke/VarHandle" ∧ (parseMethodDescriptor yN_held.desc).map (fun d => d.parameters.length) = some 2 := by decide +kernel
abbrev w_N_held : List Cond := Cond.code yN_held cN_held 3 (some .int) :: jG
theorem dd_N_learned : yN_learned.cls = rN ∧ yN_learned.cls ≠ "java/lang/invoke/MethodHandle" ∧ yN_learned.cls ≠ "java/lang/invoke/VarHandle" ∧ (parseMethodDescriptor yN_learned.desc).map (fun d => d.parameters.length) = some 3 := by decide +kernel
abbrev w_N_learned : List Cond := Cond.code yN_learned cN_learned 4 (some .int) :: jG
theorem dd_B_portOf : yB_portOf.cls = rB ∧ yB_portOf.cls ≠ "java/lang/invoke/MethodHandle" ∧ yB_portOf.cls ≠ "java/lang/invoke/VarHandle" ∧ (parseMethodDescriptor yB_portOf.desc).map (fun d => d.parameters.length) = some 3 := by decide +kernel
abbrev w_B_portOf : List Cond := Cond.code yB_portOf cB_portOf 4 (some .int) :: jG
theorem dd_N_entries : yN_entries.cls = rN ∧ yN_entries.cls ≠ "java/lang/invoke/MethodHandle" ∧ yN_entries.cls ≠ "java/lang/invoke/VarHandle" ∧ (parseMethodDescriptor yN_entries.desc).map (fun d => d.parameters.length) = some 1 := by decide +kernel
abbrev w_N_entries : List Cond := Cond.code yN_entries cN_entries 2 (some .int) :: jG
theorem dd_B_countOf : yB_countOf.cls = rB ∧ yB_countOf.cls ≠ "java/lang/invoke/MethodHandle" ∧ yB_countOf.cls ≠ "java/lang/invoke/VarHandle" ∧ (parseMethodDescriptor yB_countOf.desc).map (fun d => d.parameters.length) = some 1 := by decide +kernel
abbrev w_B_countOf : List Cond := Cond.code yB_countOf cB_countOf 4 (some .int) :: jG
theorem dd_N_send : yN_send.cls = rN ∧ yN_send.cls ≠ "java/lang/invoke/MethodHandle" ∧ yN_send.cls ≠ "java/lang/invoke/VarHandle" ∧ (parseMethodDescriptor yN_send.desc).map (fun d => d.parameters.length) = some 2 := by decide +kernel
abbrev w_N_send : List Cond := Cond.code yN_send cN_send 3 (some .int) :: jG
theorem dd_P_isHost : yP_isHost.cls = rP ∧ yP_isHost.cls ≠ "java/lang/invoke/MethodHandle" ∧ yP_isHost.cls ≠ "java/lang/invoke/VarHandle" ∧ (parseMethodDescriptor yP_isHost.desc).map (fun d => d.parameters.length) = some 1 := by decide +kernel
abbrev w_P_isHost : List Cond := Cond.code yP_isHost cP_isHost 2 (some .boolean) :: jG
theorem dd_N_isDestination : yN_isDestination.cls = rN ∧ yN_isDestination.cls ≠ "java/lang/invoke/MethodHandle" ∧ yN_isDestination.cls ≠ "java/lang/invoke/VarHandle" ∧ (parseMethodDescriptor yN_isDestination.desc).map (fun d => d.parameters.length) = some 1 := by decide +kernel
abbrev w_N_isDestination : List Cond := Cond.code yN_isDestination cN_isDestination 2 (some .boolean) :: jG
theorem dd_K_startCount : yK_startCount.cls = rK ∧ yK_startCount.cls ≠ "java/lang/invoke/MethodHandle" ∧ yK_startCount.cls ≠ "java/lang/invoke/VarHandle" ∧ (parseMethodDescriptor yK_startCount.desc).map (fun d => d.parameters.length) = some 0 := by decide +kernel
abbrev w_K_startCount : List Cond := Cond.code yK_startCount cK_startCount 1 none :: jG
theorem dd_K_carryFromHost : yK_carryFromHost.cls = rK ∧ yK_carryFromHost.cls ≠ "java/lang/invoke/MethodHandle" ∧ yK_carryFromHost.cls ≠ "java/lang/invoke/VarHandle" ∧ (parseMethodDescriptor yK_carryFromHost.desc).map (fun d => d.parameters.length) = some 2 := by decide +kernel
abbrev w_K_carryFromHost : List Cond := Cond.code yK_carryFromHost cK_carryFromHost 3 (some .int) :: jG
theorem dd_K_carry : yK_carry.cls = rK ∧ yK_carry.cls ≠ "java/lang/invoke/MethodHandle" ∧ yK_carry.cls ≠ "java/lang/invoke/VarHandle" ∧ (parseMethodDescriptor yK_carry.desc).map (fun d => d.parameters.length) = some 4 := by decide +kernel
abbrev w_K_carry : List Cond := Cond.code yK_carry cK_carry 6 (some .int) :: jG
theorem dd_K_handleArrival : yK_handleArrival.cls = rK ∧ yK_handleArrival.cls ≠ "java/lang/invoke/MethodHandle" ∧ yK_handleArrival.cls ≠ "java/lang/invoke/VarHandle" ∧ (parseMethodDescriptor yK_handleArrival.desc).map (fun d => d.parameters.length) = some 2 := by decide +kernel
abbrev w_K_handleArrival : List Cond := Cond.code yK_handleArrival cK_handleArrival 4 none :: jG
theorem dd_W_networkInside : yW_networkInside.cls = rW ∧ yW_networkInside.cls ≠ "java/lang/invoke/MethodHandle" ∧ yW_networkInside.cls ≠ "java/lang/invoke/VarHandle" ∧ (parseMethodDescriptor yW_networkInside.desc).map (fun d => d.parameters.length) = some 2 := by decide +kernel
abbrev w_W_networkInside : List Cond := Cond.code yW_networkInside cW_networkInside 4 (some .int) :: jG
theorem dd_W_isMember : yW_isMember.cls = rW ∧ yW_isMember.cls ≠ "java/lang/invoke/MethodHandle" ∧ yW_isMember.cls ≠ "java/lang/invoke/VarHandle" ∧ (parseMethodDescriptor yW_isMember.desc).map (fun d => d.parameters.length) = some 2 := by decide +kernel
abbrev w_W_isMember : List Cond := Cond.code yW_isMember cW_isMember 3 (some .boolean) :: jG
theorem dd_B_learn : yB_learn.cls = rB ∧ yB_learn.cls ≠ "java/lang/invoke/MethodHandle" ∧ yB_learn.cls ≠ "java/lang/invoke/VarHandle" ∧ (parseMethodDescriptor yB_learn.desc).map (fun d => d.parameters.length) = some 4 := by decide +kernel
abbrev w_B_learn : List Cond := Cond.code yB_learn cB_learn 6 none :: jG
theorem dd_K_forward : yK_forward.cls = rK ∧ yK_forward.cls ≠ "java/lang/invoke/MethodHandle" ∧ yK_forward.cls ≠ "java/lang/invoke/VarHandle" ∧ (parseMethodDescriptor yK_forward.desc).map (fun d => d.parameters.length) = some 2 := by decide +kernel
abbrev w_K_forward : List Cond := Cond.code yK_forward cK_forward 8 none :: jG
theorem dd_W_tagOutside : yW_tagOutside.cls = rW ∧ yW_tagOutside.cls ≠ "java/lang/invoke/MethodHandle" ∧ yW_tagOutside.cls ≠ "java/lang/invoke/VarHandle" ∧ (parseMethodDescriptor yW_tagOutside.desc).map (fun d => d.parameters.length) = some 2 := by decide +kernel
abbrev w_W_tagOutside : List Cond := Cond.code yW_tagOutside cW_tagOutside 3 (some .int) :: jG
theorem dd_K_goOut : yK_goOut.cls = rK ∧ yK_goOut.cls ≠ "java/lang/invoke/MethodHandle" ∧ yK_goOut.cls ≠ "java/lang/invoke/VarHandle" ∧ (parseMethodDescriptor yK_goOut.desc).map (fun d => d.parameters.length) = some 2 := by decide +kernel
abbrev w_K_goOut : List Cond := Cond.code yK_goOut cK_goOut 5 none :: jG
theorem dd_N_ask : yN_ask.cls = rN ∧ yN_ask.cls ≠ "java/lang/invoke/MethodHandle" ∧ yN_ask.cls ≠ "java/lang/invoke/VarHandle" ∧ (parseMethodDescriptor yN_ask.desc).map (fun d => d.parameters.length) = some 3 := by decide +kernel
abbrev w_N_ask : List Cond := Cond.code yN_ask cN_ask 7 (some .int) :: jG
theorem dd_N_routedStep : yN_routedStep.cls = rN ∧ yN_routedStep.cls ≠ "java/lang/invoke/MethodHandle" ∧ yN_routedStep.cls ≠ "java/lang/invoke/VarHandle" ∧ (parseMethodDescriptor yN_routedStep.desc).map (fun d => d.parameters.length) = some 3 := by decide +kernel
abbrev w_N_routedStep : List Cond := Cond.code yN_routedStep cN_routedStep 4 (some .boolean) :: jG
theorem dd_N_hasBit : yN_hasBit.cls = rN ∧ yN_hasBit.cls ≠ "java/lang/invoke/MethodHandle" ∧ yN_hasBit.cls ≠ "java/lang/invoke/VarHandle" ∧ (parseMethodDescriptor yN_hasBit.desc).map (fun d => d.parameters.length) = some 2 := by decide +kernel
abbrev w_N_hasBit : List Cond := Cond.code yN_hasBit cN_hasBit 2 (some .boolean) :: jG
theorem dd_K_carryFromRouter : yK_carryFromRouter.cls = rK ∧ yK_carryFromRouter.cls ≠ "java/lang/invoke/MethodHandle" ∧ yK_carryFromRouter.cls ≠ "java/lang/invoke/VarHandle" ∧ (parseMethodDescriptor yK_carryFromRouter.desc).map (fun d => d.parameters.length) = some 2 := by decide +kernel
abbrev w_K_carryFromRouter : List Cond := Cond.code yK_carryFromRouter cK_carryFromRouter 4 (some .int) :: jG
theorem dd_N_directStep : yN_directStep.cls = rN ∧ yN_directStep.cls ≠ "java/lang/invoke/MethodHandle" ∧ yN_directStep.cls ≠ "java/lang/invoke/VarHandle" ∧ (parseMethodDescriptor yN_directStep.desc).map (fun d => d.parameters.length) = some 3 := by decide +kernel
abbrev w_N_directStep : List Cond := Cond.code yN_directStep cN_directStep 4 (some .boolean) :: jG
theorem dd_N_answer : yN_answer.cls = rN ∧ yN_answer.cls ≠ "java/lang/invoke/MethodHandle" ∧ yN_answer.cls ≠ "java/lang/invoke/VarHandle" ∧ (parseMethodDescriptor yN_answer.desc).map (fun d => d.parameters.length) = some 0 := by decide +kernel
abbrev w_N_answer : List Cond := Cond.code yN_answer cN_answer 1 (some .int) :: jG
theorem dd_N_crossings : yN_crossings.cls = rN ∧ yN_crossings.cls ≠ "java/lang/invoke/MethodHandle" ∧ yN_crossings.cls ≠ "java/lang/invoke/VarHandle" ∧ (parseMethodDescriptor yN_crossings.desc).map (fun d => d.parameters.length) = some 0 := by decide +kernel
abbrev w_N_crossings : List Cond := Cond.code yN_crossings cN_crossings 1 (some .int) :: jG
theorem dd_L_cell : yL_cell.cls = rL ∧ yL_cell.cls ≠ "java/lang/invoke/MethodHandle" ∧ yL_cell.cls ≠ "java/lang/invoke/VarHandle" ∧ (parseMethodDescriptor yL_cell.desc).map (fun d => d.parameters.length) = some 2 := by decide +kernel
abbrev w_L_cell : List Cond := Cond.code yL_cell cL_cell 2 (some .int) :: jG
theorem dd_M_init : yM_init.cls = rM ∧ yM_init.cls ≠ "java/lang/invoke/MethodHandle" ∧ yM_init.cls ≠ "java/lang/invoke/VarHandle" ∧ (parseMethodDescriptor yM_init.desc).map (fun d => d.parameters.length) = some 3 := by decide +kernel
abbrev w_M_init : List Cond := Cond.code yM_init cM_init 5 none :: jG
theorem dd_M_near : yM_near.cls = rM ∧ yM_near.cls ≠ "java/lang/invoke/MethodHandle" ∧ yM_near.cls ≠ "java/lang/invoke/VarHandle" ∧ (parseMethodDescriptor yM_near.desc).map (fun d => d.parameters.length) = some 3 := by decide +kernel
abbrev w_M_near : List Cond := Cond.code yM_near cM_near 3 (some .int) :: jG
theorem dd_M_bridge : yM_bridge.cls = rM ∧ yM_bridge.cls ≠ "java/lang/invoke/MethodHandle" ∧ yM_bridge.cls ≠ "java/lang/invoke/VarHandle" ∧ (parseMethodDescriptor yM_bridge.desc).map (fun d => d.parameters.length) = some 1 := by decide +kernel
abbrev w_M_bridge : List Cond := Cond.code yM_bridge cM_bridge 2 (some .int) :: jG
theorem dd_M_look : yM_look.cls = rM ∧ yM_look.cls ≠ "java/lang/invoke/MethodHandle" ∧ yM_look.cls ≠ "java/lang/invoke/VarHandle" ∧ (parseMethodDescriptor yM_look.desc).map (fun d => d.parameters.length) = some 1 := by decide +kernel
abbrev w_M_look : List Cond := Cond.code yM_look cM_look 7 none :: jG
theorem dd_M_roleOf : yM_roleOf.cls = rM ∧ yM_roleOf.cls ≠ "java/lang/invoke/MethodHandle" ∧ yM_roleOf.cls ≠ "java/lang/invoke/VarHandle" ∧ (parseMethodDescriptor yM_roleOf.desc).map (fun d => d.parameters.length) = some 1 := by decide +kernel
abbrev w_M_roleOf : List Cond := Cond.code yM_roleOf cM_roleOf 5 (some .int) :: jG
theorem dd_M_isUp : yM_isUp.cls = rM ∧ yM_isUp.cls ≠ "java/lang/invoke/MethodHandle" ∧ yM_isUp.cls ≠ "java/lang/invoke/VarHandle" ∧ (parseMethodDescriptor yM_isUp.desc).map (fun d => d.parameters.length) = some 1 := by decide +kernel
abbrev w_M_isUp : List Cond := Cond.code yM_isUp cM_isUp 2 (some .boolean) :: jG
theorem dd_M_rootPort : yM_rootPort.cls = rM ∧ yM_rootPort.cls ≠ "java/lang/invoke/MethodHandle" ∧ yM_rootPort.cls ≠ "java/lang/invoke/VarHandle" ∧ (parseMethodDescriptor yM_rootPort.desc).map (fun d => d.parameters.length) = some 1 := by decide +kernel
abbrev w_M_rootPort : List Cond := Cond.code yM_rootPort cM_rootPort 9 (some .int) :: jG
theorem dd_M_id : yM_id.cls = rM ∧ yM_id.cls ≠ "java/lang/invoke/MethodHandle" ∧ yM_id.cls ≠ "java/lang/invoke/VarHandle" ∧ (parseMethodDescriptor yM_id.desc).map (fun d => d.parameters.length) = some 1 := by decide +kernel
abbrev w_M_id : List Cond := Cond.code yM_id cM_id 2 (some .int) :: jG
theorem dd_M_key : yM_key.cls = rM ∧ yM_key.cls ≠ "java/lang/invoke/MethodHandle" ∧ yM_key.cls ≠ "java/lang/invoke/VarHandle" ∧ (parseMethodDescriptor yM_key.desc).map (fun d => d.parameters.length) = some 4 := by decide +kernel
abbrev w_M_key : List Cond := Cond.code yM_key cM_key 4 (some .long) :: jG
theorem dd_M_rootOf : yM_rootOf.cls = rM ∧ yM_rootOf.cls ≠ "java/lang/invoke/MethodHandle" ∧ yM_rootOf.cls ≠ "java/lang/invoke/VarHandle" ∧ (parseMethodDescriptor yM_rootOf.desc).map (fun d => d.parameters.length) = some 1 := by decide +kernel
abbrev w_M_rootOf : List Cond := Cond.code yM_rootOf cM_rootOf 3 (some .int) :: jG
theorem dd_M_distance : yM_distance.cls = rM ∧ yM_distance.cls ≠ "java/lang/invoke/MethodHandle" ∧ yM_distance.cls ≠ "java/lang/invoke/VarHandle" ∧ (parseMethodDescriptor yM_distance.desc).map (fun d => d.parameters.length) = some 1 := by decide +kernel
abbrev w_M_distance : List Cond := Cond.code yM_distance cM_distance 3 (some .int) :: jG
theorem dd_M_stateOf : yM_stateOf.cls = rM ∧ yM_stateOf.cls ≠ "java/lang/invoke/MethodHandle" ∧ yM_stateOf.cls ≠ "java/lang/invoke/VarHandle" ∧ (parseMethodDescriptor yM_stateOf.desc).map (fun d => d.parameters.length) = some 1 := by decide +kernel
abbrev w_M_stateOf : List Cond := Cond.code yM_stateOf cM_stateOf 4 (some .int) :: jG
theorem dd_M_wire : yM_wire.cls = rM ∧ yM_wire.cls ≠ "java/lang/invoke/MethodHandle" ∧ yM_wire.cls ≠ "java/lang/invoke/VarHandle" ∧ (parseMethodDescriptor yM_wire.desc).map (fun d => d.parameters.length) = some 3 := by decide +kernel
abbrev w_M_wire : List Cond := Cond.code yM_wire cM_wire 4 (some .int) :: jG
theorem dd_M_isFree : yM_isFree.cls = rM ∧ yM_isFree.cls ≠ "java/lang/invoke/MethodHandle" ∧ yM_isFree.cls ≠ "java/lang/invoke/VarHandle" ∧ (parseMethodDescriptor yM_isFree.desc).map (fun d => d.parameters.length) = some 1 := by decide +kernel
abbrev w_M_isFree : List Cond := Cond.code yM_isFree cM_isFree 2 (some .boolean) :: jG
theorem dd_M_isPlace : yM_isPlace.cls = rM ∧ yM_isPlace.cls ≠ "java/lang/invoke/MethodHandle" ∧ yM_isPlace.cls ≠ "java/lang/invoke/VarHandle" ∧ (parseMethodDescriptor yM_isPlace.desc).map (fun d => d.parameters.length) = some 1 := by decide +kernel
abbrev w_M_isPlace : List Cond := Cond.code yM_isPlace cM_isPlace 2 (some .boolean) :: jG
theorem dd_M_put : yM_put.cls = rM ∧ yM_put.cls ≠ "java/lang/invoke/MethodHandle" ∧ yM_put.cls ≠ "java/lang/invoke/VarHandle" ∧ (parseMethodDescriptor yM_put.desc).map (fun d => d.parameters.length) = some 3 := by decide +kernel
abbrev w_M_put : List Cond := Cond.code yM_put cM_put 4 none :: jG
theorem dd_M_host : yM_host.cls = rM ∧ yM_host.cls ≠ "java/lang/invoke/MethodHandle" ∧ yM_host.cls ≠ "java/lang/invoke/VarHandle" ∧ (parseMethodDescriptor yM_host.desc).map (fun d => d.parameters.length) = some 2 := by decide +kernel
abbrev w_M_host : List Cond := Cond.code yM_host cM_host 3 (some .int) :: jG
theorem dd_M_router : yM_router.cls = rM ∧ yM_router.cls ≠ "java/lang/invoke/MethodHandle" ∧ yM_router.cls ≠ "java/lang/invoke/VarHandle" ∧ (parseMethodDescriptor yM_router.desc).map (fun d => d.parameters.length) = some 1 := by decide +kernel
abbrev w_M_router : List Cond := Cond.code yM_router cM_router 2 (some .boolean) :: jG
theorem dd_M_access : yM_access.cls = rM ∧ yM_access.cls ≠ "java/lang/invoke/MethodHandle" ∧ yM_access.cls ≠ "java/lang/invoke/VarHandle" ∧ (parseMethodDescriptor yM_access.desc).map (fun d => d.parameters.length) = some 2 := by decide +kernel
abbrev w_M_access : List Cond := Cond.code yM_access cM_access 3 (some .boolean) :: jG
theorem dd_M_trunk : yM_trunk.cls = rM ∧ yM_trunk.cls ≠ "java/lang/invoke/MethodHandle" ∧ yM_trunk.cls ≠ "java/lang/invoke/VarHandle" ∧ (parseMethodDescriptor yM_trunk.desc).map (fun d => d.parameters.length) = some 3 := by decide +kernel
abbrev w_M_trunk : List Cond := Cond.code yM_trunk cM_trunk 4 (some .boolean) :: jG
theorem dd_M_cut : yM_cut.cls = rM ∧ yM_cut.cls ≠ "java/lang/invoke/MethodHandle" ∧ yM_cut.cls ≠ "java/lang/invoke/VarHandle" ∧ (parseMethodDescriptor yM_cut.desc).map (fun d => d.parameters.length) = some 2 := by decide +kernel
abbrev w_M_cut : List Cond := Cond.code yM_cut cM_cut 3 (some .boolean) :: jG
theorem dd_M_tick : yM_tick.cls = rM ∧ yM_tick.cls ≠ "java/lang/invoke/MethodHandle" ∧ yM_tick.cls ≠ "java/lang/invoke/VarHandle" ∧ (parseMethodDescriptor yM_tick.desc).map (fun d => d.parameters.length) = some 1 := by decide +kernel
abbrev w_M_tick : List Cond := Cond.code yM_tick cM_tick 3 (some .int) :: jG
theorem dd_M_age : yM_age.cls = rM ∧ yM_age.cls ≠ "java/lang/invoke/MethodHandle" ∧ yM_age.cls ≠ "java/lang/invoke/VarHandle" ∧ (parseMethodDescriptor yM_age.desc).map (fun d => d.parameters.length) = some 0 := by decide +kernel
abbrev w_M_age : List Cond := Cond.code yM_age cM_age 2 none :: jG
theorem dd_M_passNotices : yM_passNotices.cls = rM ∧ yM_passNotices.cls ≠ "java/lang/invoke/MethodHandle" ∧ yM_passNotices.cls ≠ "java/lang/invoke/VarHandle" ∧ (parseMethodDescriptor yM_passNotices.desc).map (fun d => d.parameters.length) = some 0 := by decide +kernel
abbrev w_M_passNotices : List Cond := Cond.code yM_passNotices cM_passNotices 3 none :: jG
theorem dd_M_other : yM_other.cls = rM ∧ yM_other.cls ≠ "java/lang/invoke/MethodHandle" ∧ yM_other.cls ≠ "java/lang/invoke/VarHandle" ∧ (parseMethodDescriptor yM_other.desc).map (fun d => d.parameters.length) = some 1 := by decide +kernel
abbrev w_M_other : List Cond := Cond.code yM_other cM_other 3 (some .int) :: jG
theorem dd_M_sendMessages : yM_sendMessages.cls = rM ∧ yM_sendMessages.cls ≠ "java/lang/invoke/MethodHandle" ∧ yM_sendMessages.cls ≠ "java/lang/invoke/VarHandle" ∧ (parseMethodDescriptor yM_sendMessages.desc).map (fun d => d.parameters.length) = some 0 := by decide +kernel
abbrev w_M_sendMessages : List Cond := Cond.code yM_sendMessages cM_sendMessages 5 none :: jG
theorem dd_M_marked : yM_marked.cls = rM ∧ yM_marked.cls ≠ "java/lang/invoke/MethodHandle" ∧ yM_marked.cls ≠ "java/lang/invoke/VarHandle" ∧ (parseMethodDescriptor yM_marked.desc).map (fun d => d.parameters.length) = some 1 := by decide +kernel
abbrev w_M_marked : List Cond := Cond.code yM_marked cM_marked 3 (some .boolean) :: jG
theorem dd_M_hold : yM_hold.cls = rM ∧ yM_hold.cls ≠ "java/lang/invoke/MethodHandle" ∧ yM_hold.cls ≠ "java/lang/invoke/VarHandle" ∧ (parseMethodDescriptor yM_hold.desc).map (fun d => d.parameters.length) = some 2 := by decide +kernel
abbrev w_M_hold : List Cond := Cond.code yM_hold cM_hold 3 none :: jG
theorem dd_M_forget : yM_forget.cls = rM ∧ yM_forget.cls ≠ "java/lang/invoke/MethodHandle" ∧ yM_forget.cls ≠ "java/lang/invoke/VarHandle" ∧ (parseMethodDescriptor yM_forget.desc).map (fun d => d.parameters.length) = some 0 := by decide +kernel
abbrev w_M_forget : List Cond := Cond.code yM_forget cM_forget 4 none :: jG
theorem dd_M_role : yM_role.cls = rM ∧ yM_role.cls ≠ "java/lang/invoke/MethodHandle" ∧ yM_role.cls ≠ "java/lang/invoke/VarHandle" ∧ (parseMethodDescriptor yM_role.desc).map (fun d => d.parameters.length) = some 1 := by decide +kernel
abbrev w_M_role : List Cond := Cond.code yM_role cM_role 2 (some .int) :: jG
theorem dd_M_state : yM_state.cls = rM ∧ yM_state.cls ≠ "java/lang/invoke/MethodHandle" ∧ yM_state.cls ≠ "java/lang/invoke/VarHandle" ∧ (parseMethodDescriptor yM_state.desc).map (fun d => d.parameters.length) = some 1 := by decide +kernel
abbrev w_M_state : List Cond := Cond.code yM_state cM_state 2 (some .int) :: jG
theorem dd_M_root : yM_root.cls = rM ∧ yM_root.cls ≠ "java/lang/invoke/MethodHandle" ∧ yM_root.cls ≠ "java/lang/invoke/VarHandle" ∧ (parseMethodDescriptor yM_root.desc).map (fun d => d.parameters.length) = some 1 := by decide +kernel
abbrev w_M_root : List Cond := Cond.code yM_root cM_root 2 (some .int) :: jG
theorem dd_M_held : yM_held.cls = rM ∧ yM_held.cls ≠ "java/lang/invoke/MethodHandle" ∧ yM_held.cls ≠ "java/lang/invoke/VarHandle" ∧ (parseMethodDescriptor yM_held.desc).map (fun d => d.parameters.length) = some 2 := by decide +kernel
abbrev w_M_held : List Cond := Cond.code yM_held cM_held 3 (some .int) :: jG
theorem dd_M_learned : yM_learned.cls = rM ∧ yM_learned.cls ≠ "java/lang/invoke/MethodHandle" ∧ yM_learned.cls ≠ "java/lang/invoke/VarHandle" ∧ (parseMethodDescriptor yM_learned.desc).map (fun d => d.parameters.length) = some 3 := by decide +kernel
abbrev w_M_learned : List Cond := Cond.code yM_learned cM_learned 4 (some .int) :: jG
theorem dd_M_entries : yM_entries.cls = rM ∧ yM_entries.cls ≠ "java/lang/invoke/MethodHandle" ∧ yM_entries.cls ≠ "java/lang/invoke/VarHandle" ∧ (parseMethodDescriptor yM_entries.desc).map (fun d => d.parameters.length) = some 1 := by decide +kernel
abbrev w_M_entries : List Cond := Cond.code yM_entries cM_entries 4 (some .int) :: jG
theorem dd_M_send : yM_send.cls = rM ∧ yM_send.cls ≠ "java/lang/invoke/MethodHandle" ∧ yM_send.cls ≠ "java/lang/invoke/VarHandle" ∧ (parseMethodDescriptor yM_send.desc).map (fun d => d.parameters.length) = some 2 := by decide +kernel
abbrev w_M_send : List Cond := Cond.code yM_send cM_send 3 (some .int) :: jG
theorem dd_M_isHost : yM_isHost.cls = rM ∧ yM_isHost.cls ≠ "java/lang/invoke/MethodHandle" ∧ yM_isHost.cls ≠ "java/lang/invoke/VarHandle" ∧ (parseMethodDescriptor yM_isHost.desc).map (fun d => d.parameters.length) = some 1 := by decide +kernel
abbrev w_M_isHost : List Cond := Cond.code yM_isHost cM_isHost 2 (some .boolean) :: jG
theorem dd_M_frame : yM_frame.cls = rM ∧ yM_frame.cls ≠ "java/lang/invoke/MethodHandle" ∧ yM_frame.cls ≠ "java/lang/invoke/VarHandle" ∧ (parseMethodDescriptor yM_frame.desc).map (fun d => d.parameters.length) = some 4 := by decide +kernel
abbrev w_M_frame : List Cond := Cond.code yM_frame cM_frame 6 (some .int) :: jG
theorem dd_M_arrive : yM_arrive.cls = rM ∧ yM_arrive.cls ≠ "java/lang/invoke/MethodHandle" ∧ yM_arrive.cls ≠ "java/lang/invoke/VarHandle" ∧ (parseMethodDescriptor yM_arrive.desc).map (fun d => d.parameters.length) = some 2 := by decide +kernel
abbrev w_M_arrive : List Cond := Cond.code yM_arrive cM_arrive 3 none :: jG
theorem dd_M_handle : yM_handle.cls = rM ∧ yM_handle.cls ≠ "java/lang/invoke/MethodHandle" ∧ yM_handle.cls ≠ "java/lang/invoke/VarHandle" ∧ (parseMethodDescriptor yM_handle.desc).map (fun d => d.parameters.length) = some 4 := by decide +kernel
abbrev w_M_handle : List Cond := Cond.code yM_handle cM_handle 12 none :: jG
theorem dd_M_isMember : yM_isMember.cls = rM ∧ yM_isMember.cls ≠ "java/lang/invoke/MethodHandle" ∧ yM_isMember.cls ≠ "java/lang/invoke/VarHandle" ∧ (parseMethodDescriptor yM_isMember.desc).map (fun d => d.parameters.length) = some 2 := by decide +kernel
abbrev w_M_isMember : List Cond := Cond.code yM_isMember cM_isMember 3 (some .boolean) :: jG
theorem dd_M_goOut : yM_goOut.cls = rM ∧ yM_goOut.cls ≠ "java/lang/invoke/MethodHandle" ∧ yM_goOut.cls ≠ "java/lang/invoke/VarHandle" ∧ (parseMethodDescriptor yM_goOut.desc).map (fun d => d.parameters.length) = some 2 := by decide +kernel
abbrev w_M_goOut : List Cond := Cond.code yM_goOut cM_goOut 4 none :: jG
theorem dd_M_ask : yM_ask.cls = rM ∧ yM_ask.cls ≠ "java/lang/invoke/MethodHandle" ∧ yM_ask.cls ≠ "java/lang/invoke/VarHandle" ∧ (parseMethodDescriptor yM_ask.desc).map (fun d => d.parameters.length) = some 3 := by decide +kernel
abbrev w_M_ask : List Cond := Cond.code yM_ask cM_ask 6 (some .int) :: jG
theorem dd_M_askNear : yM_askNear.cls = rM ∧ yM_askNear.cls ≠ "java/lang/invoke/MethodHandle" ∧ yM_askNear.cls ≠ "java/lang/invoke/VarHandle" ∧ (parseMethodDescriptor yM_askNear.desc).map (fun d => d.parameters.length) = some 2 := by decide +kernel
abbrev w_M_askNear : List Cond := Cond.code yM_askNear cM_askNear 3 (some .int) :: jG
theorem dd_M_reaches : yM_reaches.cls = rM ∧ yM_reaches.cls ≠ "java/lang/invoke/MethodHandle" ∧ yM_reaches.cls ≠ "java/lang/invoke/VarHandle" ∧ (parseMethodDescriptor yM_reaches.desc).map (fun d => d.parameters.length) = some 4 := by decide +kernel
abbrev w_M_reaches : List Cond := Cond.code yM_reaches cM_reaches 6 (some .boolean) :: jG
theorem dd_M_askFar : yM_askFar.cls = rM ∧ yM_askFar.cls ≠ "java/lang/invoke/MethodHandle" ∧ yM_askFar.cls ≠ "java/lang/invoke/VarHandle" ∧ (parseMethodDescriptor yM_askFar.desc).map (fun d => d.parameters.length) = some 4 := by decide +kernel
abbrev w_M_askFar : List Cond := Cond.code yM_askFar cM_askFar 5 (some .int) :: jG
theorem dd_M_answer : yM_answer.cls = rM ∧ yM_answer.cls ≠ "java/lang/invoke/MethodHandle" ∧ yM_answer.cls ≠ "java/lang/invoke/VarHandle" ∧ (parseMethodDescriptor yM_answer.desc).map (fun d => d.parameters.length) = some 0 := by decide +kernel
abbrev w_M_answer : List Cond := Cond.code yM_answer cM_answer 1 (some .int) :: jG
theorem dd_M_crossings : yM_crossings.cls = rM ∧ yM_crossings.cls ≠ "java/lang/invoke/MethodHandle" ∧ yM_crossings.cls ≠ "java/lang/invoke/VarHandle" ∧ (parseMethodDescriptor yM_crossings.desc).map (fun d => d.parameters.length) = some 0 := by decide +kernel
abbrev w_M_crossings : List Cond := Cond.code yM_crossings cM_crossings 1 (some .int) :: jG
