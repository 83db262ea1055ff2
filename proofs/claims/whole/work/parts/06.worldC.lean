/-! the states and the worlds -/
abbrev jS : Type := Nat → Nat → Int32
def sF (σ : jS) (k : Nat) (f : Nat → Int32) : jS := fun j => if j = k then f else σ j
def sU (σ : jS) (k i : Nat) (v : Int32) : jS := sF σ k (upd (σ k) i v)
def bI (b : Bool) : Int32 := if b = true then 1 else 0
def forN (f : Nat → jS → jS) (σ : jS) : Nat → jS
  | 0 => σ
  | n + 1 => f n (forN f σ n)
theorem bI_t : bI true = 1 := rfl
theorem bI_f : bI false = 0 := rfl
theorem bI_nar (b : Bool) : vp_nar .boolean (bI b) = bI b := by cases b <;> rfl
theorem bI_nw (b : Bool) : narrow .boolean (.int (bI b)) = .int (bI b) := by cases b <;> rfl
theorem bI_0 {b : Bool} : bI b = 0 ↔ b = false := by cases b <;> decide
theorem sF_eq (σ : jS) (k : Nat) (f : Nat → Int32) : sF σ k f k = f := if_pos rfl
theorem sF_ne (σ : jS) {k j : Nat} (f : Nat → Int32) (h : j ≠ k) : sF σ k f j = σ j := if_neg h
theorem sU_eq (σ : jS) (k i : Nat) (v : Int32) (j : Nat) : sU σ k i v k j = if j = i then v else σ k j := by rw [sU, sF_eq]; rfl
theorem sU_ne (σ : jS) {k j : Nat} (i : Nat) (v : Int32) (h : j ≠ k) : sU σ k i v j = σ j := if_neg h
abbrev jTys (cI cZ : ClassId) : List (ClassId × FieldType) := [(cI, .int), (cZ, .boolean)]
theorem loop_up {P : Nat → Prop} {N : Nat} (h : ∀ i, i ≤ N → (i < N → P (i + 1)) → P i) : ∀ i, i ≤ N → P i := by
  have key : ∀ k i, i ≤ N → N - i = k → P i := by
    intro k
    induction k with
    | zero => exact fun i hi hk => h i hi (fun hlt => absurd hlt (by omega))
    | succ k ih => exact fun i hi hk => h i hi (fun hlt => ih (i + 1) (by omega) (by omega))
  exact fun i hi => key (N - i) i hi rfl
def wC (a : Nat → Nat) (cI cZ : ClassId) (σ : jS) : va_W := [(a 0, .inr (0, [.int (σ 0 0), .ref (a 1), .ref (a 2), .ref (a 3), .ref (a 4), .ref (a 5), .int (σ 0 1)])),
  (a 1, .inr (1, [.int (σ 1 0), .ref (a 6), .int (σ 1 1), .ref (a 7), .ref (a 8), .ref (a 9), .int (σ 1 2), .ref (a 10), .ref (a 11), .int (σ 1 3), .ref (a 12), .ref (a 13), .ref (a 14)])),
  (a 2, .inr (2, [.ref (a 15), .ref (a 16), .ref (a 17)])),
  (a 3, .inr (3, [.ref (a 1), .int (σ 3 0), .int (σ 3 1), .int (σ 3 2), .ref (a 18), .ref (a 19), .ref (a 20), .ref (a 21), .ref (a 22), .ref (a 23), .ref (a 24), .ref (a 25), .ref (a 26), .ref (a 27), .ref (a 28), .ref (a 29), .ref (a 30)])),
  (a 4, .inr (4, [.ref (a 31), .ref (a 32)])),
  (a 5, .inr (5, [.ref (a 1), .ref (a 2), .ref (a 3), .ref (a 4), .ref (a 33), .ref (a 34), .int (σ 5 0), .int (σ 5 1), .int (σ 5 2), .int (σ 5 3), .int (σ 5 4), .int (σ 5 5)])),
  (a 6, .inl (cI, 6, .inl (σ 6))),
  (a 7, .inl (cI, 10, .inl (σ 7))),
  (a 8, .inl (cI, 10, .inl (σ 8))),
  (a 9, .inl (cZ, 10, .inl (σ 9))),
  (a 10, .inl (cI, 6, .inl (σ 10))),
  (a 11, .inl (cI, 6, .inl (σ 11))),
  (a 12, .inl (cI, 24, .inl (σ 12))),
  (a 13, .inl (cI, 24, .inl (σ 13))),
  (a 14, .inl (cI, 24, .inl (σ 14))),
  (a 15, .inl (cI, 24, .inl (σ 15))),
  (a 16, .inl (cI, 24, .inl (σ 16))),
  (a 17, .inl (cZ, 24, .inl (σ 17))),
  (a 18, .inl (cI, 144, .inl (σ 18))),
  (a 19, .inl (cZ, 24, .inl (σ 19))),
  (a 20, .inl (cI, 144, .inl (σ 20))),
  (a 21, .inl (cZ, 24, .inl (σ 21))),
  (a 22, .inl (cI, 6, .inl (σ 22))),
  (a 23, .inl (cI, 6, .inl (σ 23))),
  (a 24, .inl (cI, 6, .inl (σ 24))),
  (a 25, .inl (cI, 24, .inl (σ 25))),
  (a 26, .inl (cI, 24, .inl (σ 26))),
  (a 27, .inl (cI, 24, .inl (σ 27))),
  (a 28, .inl (cI, 6, .inl (σ 28))),
  (a 29, .inl (cZ, 6, .inl (σ 29))),
  (a 30, .inl (cZ, 6, .inl (σ 30))),
  (a 31, .inl (cI, 168, .inl (σ 31))),
  (a 32, .inl (cI, 168, .inl (σ 32))),
  (a 33, .inl (cI, 61, .inl (σ 33))),
  (a 34, .inl (cI, 61, .inl (σ 34)))]
section WC
variable {l : Launch} {D : va_G} {R : Room} {nL : Nat} {X : jX} {cc : ByteArray} {own : String} {cw : Cond} {cI cZ : ClassId} {ret : Option FieldType} {a : Nat → Nat} {σ : jS} {pc : Nat} {L : List (Nat × Value)} {st : List Value}
theorem Cw_6 (f : Nat → Int32) : (wC a cI cZ σ).set 6 (a 6, .inl (cI, 6, .inl f)) = wC a cI cZ (sF σ 6 f) := rfl
theorem Cl_6 (hF : jF D R nL X cc own (cw :: jG) (jTys cI cZ) ret) {i : Nat} (hi : i < 6) (hd : decode cc pc = .ok (.iaload, 1)) (k : jJ l D R nL X (wC a cI cZ σ) (pc + 1) L (.int (σ 6 i) :: st)) : jJ l D R nL X (wC a cI cZ σ) pc L (.int (nI i) :: .ref (a 6) :: st) :=
  jq_ialdN hF 6 0 rfl rfl (by decide) hi hd k
theorem CL_6 (hF : jF D R nL X cc own (cw :: jG) (jTys cI cZ) ret) {i : Int32} (hi : vp_in i 6) (hd : decode cc pc = .ok (.iaload, 1)) (k : jJ l D R nL X (wC a cI cZ σ) (pc + 1) L (.int (σ 6 i.toNatClampNeg) :: st)) : jJ l D R nL X (wC a cI cZ σ) pc L (.int i :: .ref (a 6) :: st) :=
  jq_iald hF 6 0 rfl rfl hi hd k
theorem Cs_6 (hF : jF D R nL X cc own (cw :: jG) (jTys cI cZ) ret) {i : Nat} {x : Int32} (hi : i < 6) (hd : decode cc pc = .ok (.iastore, 1)) (k : jJ l D R nL X (wC a cI cZ (sU σ 6 i x)) (pc + 1) L st) : jJ l D R nL X (wC a cI cZ σ) pc L (.int x :: .int (nI i) :: .ref (a 6) :: st) :=
  jq_iastN hF 6 0 _ rfl rfl (by decide) hi rfl hd k
theorem CS_6 (hF : jF D R nL X cc own (cw :: jG) (jTys cI cZ) ret) {i x : Int32} (hi : vp_in i 6) (hd : decode cc pc = .ok (.iastore, 1)) (k : jJ l D R nL X (wC a cI cZ (sU σ 6 i.toNatClampNeg x)) (pc + 1) L st) : jJ l D R nL X (wC a cI cZ σ) pc L (.int x :: .int i :: .ref (a 6) :: st) :=
  jq_iast hF 6 0 _ rfl rfl hi rfl hd k
theorem Cw_7 (f : Nat → Int32) : (wC a cI cZ σ).set 7 (a 7, .inl (cI, 10, .inl f)) = wC a cI cZ (sF σ 7 f) := rfl
theorem Cl_7 (hF : jF D R nL X cc own (cw :: jG) (jTys cI cZ) ret) {i : Nat} (hi : i < 10) (hd : decode cc pc = .ok (.iaload, 1)) (k : jJ l D R nL X (wC a cI cZ σ) (pc + 1) L (.int (σ 7 i) :: st)) : jJ l D R nL X (wC a cI cZ σ) pc L (.int (nI i) :: .ref (a 7) :: st) :=
  jq_ialdN hF 7 0 rfl rfl (by decide) hi hd k
theorem CL_7 (hF : jF D R nL X cc own (cw :: jG) (jTys cI cZ) ret) {i : Int32} (hi : vp_in i 10) (hd : decode cc pc = .ok (.iaload, 1)) (k : jJ l D R nL X (wC a cI cZ σ) (pc + 1) L (.int (σ 7 i.toNatClampNeg) :: st)) : jJ l D R nL X (wC a cI cZ σ) pc L (.int i :: .ref (a 7) :: st) :=
  jq_iald hF 7 0 rfl rfl hi hd k
theorem Cs_7 (hF : jF D R nL X cc own (cw :: jG) (jTys cI cZ) ret) {i : Nat} {x : Int32} (hi : i < 10) (hd : decode cc pc = .ok (.iastore, 1)) (k : jJ l D R nL X (wC a cI cZ (sU σ 7 i x)) (pc + 1) L st) : jJ l D R nL X (wC a cI cZ σ) pc L (.int x :: .int (nI i) :: .ref (a 7) :: st) :=
  jq_iastN hF 7 0 _ rfl rfl (by decide) hi rfl hd k
theorem CS_7 (hF : jF D R nL X cc own (cw :: jG) (jTys cI cZ) ret) {i x : Int32} (hi : vp_in i 10) (hd : decode cc pc = .ok (.iastore, 1)) (k : jJ l D R nL X (wC a cI cZ (sU σ 7 i.toNatClampNeg x)) (pc + 1) L st) : jJ l D R nL X (wC a cI cZ σ) pc L (.int x :: .int i :: .ref (a 7) :: st) :=
  jq_iast hF 7 0 _ rfl rfl hi rfl hd k
theorem Cw_8 (f : Nat → Int32) : (wC a cI cZ σ).set 8 (a 8, .inl (cI, 10, .inl f)) = wC a cI cZ (sF σ 8 f) := rfl
theorem Cl_8 (hF : jF D R nL X cc own (cw :: jG) (jTys cI cZ) ret) {i : Nat} (hi : i < 10) (hd : decode cc pc = .ok (.iaload, 1)) (k : jJ l D R nL X (wC a cI cZ σ) (pc + 1) L (.int (σ 8 i) :: st)) : jJ l D R nL X (wC a cI cZ σ) pc L (.int (nI i) :: .ref (a 8) :: st) :=
  jq_ialdN hF 8 0 rfl rfl (by decide) hi hd k
theorem CL_8 (hF : jF D R nL X cc own (cw :: jG) (jTys cI cZ) ret) {i : Int32} (hi : vp_in i 10) (hd : decode cc pc = .ok (.iaload, 1)) (k : jJ l D R nL X (wC a cI cZ σ) (pc + 1) L (.int (σ 8 i.toNatClampNeg) :: st)) : jJ l D R nL X (wC a cI cZ σ) pc L (.int i :: .ref (a 8) :: st) :=
  jq_iald hF 8 0 rfl rfl hi hd k
theorem Cs_8 (hF : jF D R nL X cc own (cw :: jG) (jTys cI cZ) ret) {i : Nat} {x : Int32} (hi : i < 10) (hd : decode cc pc = .ok (.iastore, 1)) (k : jJ l D R nL X (wC a cI cZ (sU σ 8 i x)) (pc + 1) L st) : jJ l D R nL X (wC a cI cZ σ) pc L (.int x :: .int (nI i) :: .ref (a 8) :: st) :=
  jq_iastN hF 8 0 _ rfl rfl (by decide) hi rfl hd k
theorem CS_8 (hF : jF D R nL X cc own (cw :: jG) (jTys cI cZ) ret) {i x : Int32} (hi : vp_in i 10) (hd : decode cc pc = .ok (.iastore, 1)) (k : jJ l D R nL X (wC a cI cZ (sU σ 8 i.toNatClampNeg x)) (pc + 1) L st) : jJ l D R nL X (wC a cI cZ σ) pc L (.int x :: .int i :: .ref (a 8) :: st) :=
  jq_iast hF 8 0 _ rfl rfl hi rfl hd k
theorem Cw_9 (f : Nat → Int32) : (wC a cI cZ σ).set 9 (a 9, .inl (cZ, 10, .inl f)) = wC a cI cZ (sF σ 9 f) := rfl
theorem Cl_9 (hF : jF D R nL X cc own (cw :: jG) (jTys cI cZ) ret) {i : Nat} (hi : i < 10) (hd : decode cc pc = .ok (.baload, 1)) (k : jJ l D R nL X (wC a cI cZ σ) (pc + 1) L (.int (σ 9 i) :: st)) : jJ l D R nL X (wC a cI cZ σ) pc L (.int (nI i) :: .ref (a 9) :: st) :=
  jq_zaldN hF 9 1 rfl rfl (by decide) hi hd k
theorem CL_9 (hF : jF D R nL X cc own (cw :: jG) (jTys cI cZ) ret) {i : Int32} (hi : vp_in i 10) (hd : decode cc pc = .ok (.baload, 1)) (k : jJ l D R nL X (wC a cI cZ σ) (pc + 1) L (.int (σ 9 i.toNatClampNeg) :: st)) : jJ l D R nL X (wC a cI cZ σ) pc L (.int i :: .ref (a 9) :: st) :=
  jq_zald hF 9 1 rfl rfl hi hd k
theorem Cs_9 (hF : jF D R nL X cc own (cw :: jG) (jTys cI cZ) ret) {i : Nat} {x : Int32} (hi : i < 10) (hx : vp_nar .boolean x = x) (hd : decode cc pc = .ok (.bastore, 1)) (k : jJ l D R nL X (wC a cI cZ (sU σ 9 i x)) (pc + 1) L st) : jJ l D R nL X (wC a cI cZ σ) pc L (.int x :: .int (nI i) :: .ref (a 9) :: st) :=
  jq_zastN hF 9 1 _ rfl rfl (by decide) hi (by rw [hx]; rfl) hd k
theorem CS_9 (hF : jF D R nL X cc own (cw :: jG) (jTys cI cZ) ret) {i x : Int32} (hi : vp_in i 10) (hx : vp_nar .boolean x = x) (hd : decode cc pc = .ok (.bastore, 1)) (k : jJ l D R nL X (wC a cI cZ (sU σ 9 i.toNatClampNeg x)) (pc + 1) L st) : jJ l D R nL X (wC a cI cZ σ) pc L (.int x :: .int i :: .ref (a 9) :: st) :=
  jq_zast hF 9 1 _ rfl rfl hi (by rw [hx]; rfl) hd k
theorem Cw_10 (f : Nat → Int32) : (wC a cI cZ σ).set 10 (a 10, .inl (cI, 6, .inl f)) = wC a cI cZ (sF σ 10 f) := rfl
theorem Cl_10 (hF : jF D R nL X cc own (cw :: jG) (jTys cI cZ) ret) {i : Nat} (hi : i < 6) (hd : decode cc pc = .ok (.iaload, 1)) (k : jJ l D R nL X (wC a cI cZ σ) (pc + 1) L (.int (σ 10 i) :: st)) : jJ l D R nL X (wC a cI cZ σ) pc L (.int (nI i) :: .ref (a 10) :: st) :=
  jq_ialdN hF 10 0 rfl rfl (by decide) hi hd k
theorem CL_10 (hF : jF D R nL X cc own (cw :: jG) (jTys cI cZ) ret) {i : Int32} (hi : vp_in i 6) (hd : decode cc pc = .ok (.iaload, 1)) (k : jJ l D R nL X (wC a cI cZ σ) (pc + 1) L (.int (σ 10 i.toNatClampNeg) :: st)) : jJ l D R nL X (wC a cI cZ σ) pc L (.int i :: .ref (a 10) :: st) :=
  jq_iald hF 10 0 rfl rfl hi hd k
theorem Cs_10 (hF : jF D R nL X cc own (cw :: jG) (jTys cI cZ) ret) {i : Nat} {x : Int32} (hi : i < 6) (hd : decode cc pc = .ok (.iastore, 1)) (k : jJ l D R nL X (wC a cI cZ (sU σ 10 i x)) (pc + 1) L st) : jJ l D R nL X (wC a cI cZ σ) pc L (.int x :: .int (nI i) :: .ref (a 10) :: st) :=
  jq_iastN hF 10 0 _ rfl rfl (by decide) hi rfl hd k
theorem CS_10 (hF : jF D R nL X cc own (cw :: jG) (jTys cI cZ) ret) {i x : Int32} (hi : vp_in i 6) (hd : decode cc pc = .ok (.iastore, 1)) (k : jJ l D R nL X (wC a cI cZ (sU σ 10 i.toNatClampNeg x)) (pc + 1) L st) : jJ l D R nL X (wC a cI cZ σ) pc L (.int x :: .int i :: .ref (a 10) :: st) :=
  jq_iast hF 10 0 _ rfl rfl hi rfl hd k
theorem Cw_11 (f : Nat → Int32) : (wC a cI cZ σ).set 11 (a 11, .inl (cI, 6, .inl f)) = wC a cI cZ (sF σ 11 f) := rfl
theorem Cl_11 (hF : jF D R nL X cc own (cw :: jG) (jTys cI cZ) ret) {i : Nat} (hi : i < 6) (hd : decode cc pc = .ok (.iaload, 1)) (k : jJ l D R nL X (wC a cI cZ σ) (pc + 1) L (.int (σ 11 i) :: st)) : jJ l D R nL X (wC a cI cZ σ) pc L (.int (nI i) :: .ref (a 11) :: st) :=
  jq_ialdN hF 11 0 rfl rfl (by decide) hi hd k
theorem CL_11 (hF : jF D R nL X cc own (cw :: jG) (jTys cI cZ) ret) {i : Int32} (hi : vp_in i 6) (hd : decode cc pc = .ok (.iaload, 1)) (k : jJ l D R nL X (wC a cI cZ σ) (pc + 1) L (.int (σ 11 i.toNatClampNeg) :: st)) : jJ l D R nL X (wC a cI cZ σ) pc L (.int i :: .ref (a 11) :: st) :=
  jq_iald hF 11 0 rfl rfl hi hd k
theorem Cs_11 (hF : jF D R nL X cc own (cw :: jG) (jTys cI cZ) ret) {i : Nat} {x : Int32} (hi : i < 6) (hd : decode cc pc = .ok (.iastore, 1)) (k : jJ l D R nL X (wC a cI cZ (sU σ 11 i x)) (pc + 1) L st) : jJ l D R nL X (wC a cI cZ σ) pc L (.int x :: .int (nI i) :: .ref (a 11) :: st) :=
  jq_iastN hF 11 0 _ rfl rfl (by decide) hi rfl hd k
theorem CS_11 (hF : jF D R nL X cc own (cw :: jG) (jTys cI cZ) ret) {i x : Int32} (hi : vp_in i 6) (hd : decode cc pc = .ok (.iastore, 1)) (k : jJ l D R nL X (wC a cI cZ (sU σ 11 i.toNatClampNeg x)) (pc + 1) L st) : jJ l D R nL X (wC a cI cZ σ) pc L (.int x :: .int i :: .ref (a 11) :: st) :=
  jq_iast hF 11 0 _ rfl rfl hi rfl hd k
theorem Cw_12 (f : Nat → Int32) : (wC a cI cZ σ).set 12 (a 12, .inl (cI, 24, .inl f)) = wC a cI cZ (sF σ 12 f) := rfl
theorem Cl_12 (hF : jF D R nL X cc own (cw :: jG) (jTys cI cZ) ret) {i : Nat} (hi : i < 24) (hd : decode cc pc = .ok (.iaload, 1)) (k : jJ l D R nL X (wC a cI cZ σ) (pc + 1) L (.int (σ 12 i) :: st)) : jJ l D R nL X (wC a cI cZ σ) pc L (.int (nI i) :: .ref (a 12) :: st) :=
  jq_ialdN hF 12 0 rfl rfl (by decide) hi hd k
theorem CL_12 (hF : jF D R nL X cc own (cw :: jG) (jTys cI cZ) ret) {i : Int32} (hi : vp_in i 24) (hd : decode cc pc = .ok (.iaload, 1)) (k : jJ l D R nL X (wC a cI cZ σ) (pc + 1) L (.int (σ 12 i.toNatClampNeg) :: st)) : jJ l D R nL X (wC a cI cZ σ) pc L (.int i :: .ref (a 12) :: st) :=
  jq_iald hF 12 0 rfl rfl hi hd k
theorem Cs_12 (hF : jF D R nL X cc own (cw :: jG) (jTys cI cZ) ret) {i : Nat} {x : Int32} (hi : i < 24) (hd : decode cc pc = .ok (.iastore, 1)) (k : jJ l D R nL X (wC a cI cZ (sU σ 12 i x)) (pc + 1) L st) : jJ l D R nL X (wC a cI cZ σ) pc L (.int x :: .int (nI i) :: .ref (a 12) :: st) :=
  jq_iastN hF 12 0 _ rfl rfl (by decide) hi rfl hd k
theorem CS_12 (hF : jF D R nL X cc own (cw :: jG) (jTys cI cZ) ret) {i x : Int32} (hi : vp_in i 24) (hd : decode cc pc = .ok (.iastore, 1)) (k : jJ l D R nL X (wC a cI cZ (sU σ 12 i.toNatClampNeg x)) (pc + 1) L st) : jJ l D R nL X (wC a cI cZ σ) pc L (.int x :: .int i :: .ref (a 12) :: st) :=
  jq_iast hF 12 0 _ rfl rfl hi rfl hd k
theorem Cw_13 (f : Nat → Int32) : (wC a cI cZ σ).set 13 (a 13, .inl (cI, 24, .inl f)) = wC a cI cZ (sF σ 13 f) := rfl
theorem Cl_13 (hF : jF D R nL X cc own (cw :: jG) (jTys cI cZ) ret) {i : Nat} (hi : i < 24) (hd : decode cc pc = .ok (.iaload, 1)) (k : jJ l D R nL X (wC a cI cZ σ) (pc + 1) L (.int (σ 13 i) :: st)) : jJ l D R nL X (wC a cI cZ σ) pc L (.int (nI i) :: .ref (a 13) :: st) :=
  jq_ialdN hF 13 0 rfl rfl (by decide) hi hd k
theorem CL_13 (hF : jF D R nL X cc own (cw :: jG) (jTys cI cZ) ret) {i : Int32} (hi : vp_in i 24) (hd : decode cc pc = .ok (.iaload, 1)) (k : jJ l D R nL X (wC a cI cZ σ) (pc + 1) L (.int (σ 13 i.toNatClampNeg) :: st)) : jJ l D R nL X (wC a cI cZ σ) pc L (.int i :: .ref (a 13) :: st) :=
  jq_iald hF 13 0 rfl rfl hi hd k
theorem Cs_13 (hF : jF D R nL X cc own (cw :: jG) (jTys cI cZ) ret) {i : Nat} {x : Int32} (hi : i < 24) (hd : decode cc pc = .ok (.iastore, 1)) (k : jJ l D R nL X (wC a cI cZ (sU σ 13 i x)) (pc + 1) L st) : jJ l D R nL X (wC a cI cZ σ) pc L (.int x :: .int (nI i) :: .ref (a 13) :: st) :=
  jq_iastN hF 13 0 _ rfl rfl (by decide) hi rfl hd k
theorem CS_13 (hF : jF D R nL X cc own (cw :: jG) (jTys cI cZ) ret) {i x : Int32} (hi : vp_in i 24) (hd : decode cc pc = .ok (.iastore, 1)) (k : jJ l D R nL X (wC a cI cZ (sU σ 13 i.toNatClampNeg x)) (pc + 1) L st) : jJ l D R nL X (wC a cI cZ σ) pc L (.int x :: .int i :: .ref (a 13) :: st) :=
  jq_iast hF 13 0 _ rfl rfl hi rfl hd k
theorem Cw_14 (f : Nat → Int32) : (wC a cI cZ σ).set 14 (a 14, .inl (cI, 24, .inl f)) = wC a cI cZ (sF σ 14 f) := rfl
theorem Cl_14 (hF : jF D R nL X cc own (cw :: jG) (jTys cI cZ) ret) {i : Nat} (hi : i < 24) (hd : decode cc pc = .ok (.iaload, 1)) (k : jJ l D R nL X (wC a cI cZ σ) (pc + 1) L (.int (σ 14 i) :: st)) : jJ l D R nL X (wC a cI cZ σ) pc L (.int (nI i) :: .ref (a 14) :: st) :=
  jq_ialdN hF 14 0 rfl rfl (by decide) hi hd k
theorem CL_14 (hF : jF D R nL X cc own (cw :: jG) (jTys cI cZ) ret) {i : Int32} (hi : vp_in i 24) (hd : decode cc pc = .ok (.iaload, 1)) (k : jJ l D R nL X (wC a cI cZ σ) (pc + 1) L (.int (σ 14 i.toNatClampNeg) :: st)) : jJ l D R nL X (wC a cI cZ σ) pc L (.int i :: .ref (a 14) :: st) :=
  jq_iald hF 14 0 rfl rfl hi hd k
theorem Cs_14 (hF : jF D R nL X cc own (cw :: jG) (jTys cI cZ) ret) {i : Nat} {x : Int32} (hi : i < 24) (hd : decode cc pc = .ok (.iastore, 1)) (k : jJ l D R nL X (wC a cI cZ (sU σ 14 i x)) (pc + 1) L st) : jJ l D R nL X (wC a cI cZ σ) pc L (.int x :: .int (nI i) :: .ref (a 14) :: st) :=
  jq_iastN hF 14 0 _ rfl rfl (by decide) hi rfl hd k
theorem CS_14 (hF : jF D R nL X cc own (cw :: jG) (jTys cI cZ) ret) {i x : Int32} (hi : vp_in i 24) (hd : decode cc pc = .ok (.iastore, 1)) (k : jJ l D R nL X (wC a cI cZ (sU σ 14 i.toNatClampNeg x)) (pc + 1) L st) : jJ l D R nL X (wC a cI cZ σ) pc L (.int x :: .int i :: .ref (a 14) :: st) :=
  jq_iast hF 14 0 _ rfl rfl hi rfl hd k
theorem Cw_15 (f : Nat → Int32) : (wC a cI cZ σ).set 15 (a 15, .inl (cI, 24, .inl f)) = wC a cI cZ (sF σ 15 f) := rfl
theorem Cl_15 (hF : jF D R nL X cc own (cw :: jG) (jTys cI cZ) ret) {i : Nat} (hi : i < 24) (hd : decode cc pc = .ok (.iaload, 1)) (k : jJ l D R nL X (wC a cI cZ σ) (pc + 1) L (.int (σ 15 i) :: st)) : jJ l D R nL X (wC a cI cZ σ) pc L (.int (nI i) :: .ref (a 15) :: st) :=
  jq_ialdN hF 15 0 rfl rfl (by decide) hi hd k
theorem CL_15 (hF : jF D R nL X cc own (cw :: jG) (jTys cI cZ) ret) {i : Int32} (hi : vp_in i 24) (hd : decode cc pc = .ok (.iaload, 1)) (k : jJ l D R nL X (wC a cI cZ σ) (pc + 1) L (.int (σ 15 i.toNatClampNeg) :: st)) : jJ l D R nL X (wC a cI cZ σ) pc L (.int i :: .ref (a 15) :: st) :=
  jq_iald hF 15 0 rfl rfl hi hd k
theorem Cs_15 (hF : jF D R nL X cc own (cw :: jG) (jTys cI cZ) ret) {i : Nat} {x : Int32} (hi : i < 24) (hd : decode cc pc = .ok (.iastore, 1)) (k : jJ l D R nL X (wC a cI cZ (sU σ 15 i x)) (pc + 1) L st) : jJ l D R nL X (wC a cI cZ σ) pc L (.int x :: .int (nI i) :: .ref (a 15) :: st) :=
  jq_iastN hF 15 0 _ rfl rfl (by decide) hi rfl hd k
theorem CS_15 (hF : jF D R nL X cc own (cw :: jG) (jTys cI cZ) ret) {i x : Int32} (hi : vp_in i 24) (hd : decode cc pc = .ok (.iastore, 1)) (k : jJ l D R nL X (wC a cI cZ (sU σ 15 i.toNatClampNeg x)) (pc + 1) L st) : jJ l D R nL X (wC a cI cZ σ) pc L (.int x :: .int i :: .ref (a 15) :: st) :=
  jq_iast hF 15 0 _ rfl rfl hi rfl hd k
theorem Cw_16 (f : Nat → Int32) : (wC a cI cZ σ).set 16 (a 16, .inl (cI, 24, .inl f)) = wC a cI cZ (sF σ 16 f) := rfl
theorem Cl_16 (hF : jF D R nL X cc own (cw :: jG) (jTys cI cZ) ret) {i : Nat} (hi : i < 24) (hd : decode cc pc = .ok (.iaload, 1)) (k : jJ l D R nL X (wC a cI cZ σ) (pc + 1) L (.int (σ 16 i) :: st)) : jJ l D R nL X (wC a cI cZ σ) pc L (.int (nI i) :: .ref (a 16) :: st) :=
  jq_ialdN hF 16 0 rfl rfl (by decide) hi hd k
theorem CL_16 (hF : jF D R nL X cc own (cw :: jG) (jTys cI cZ) ret) {i : Int32} (hi : vp_in i 24) (hd : decode cc pc = .ok (.iaload, 1)) (k : jJ l D R nL X (wC a cI cZ σ) (pc + 1) L (.int (σ 16 i.toNatClampNeg) :: st)) : jJ l D R nL X (wC a cI cZ σ) pc L (.int i :: .ref (a 16) :: st) :=
  jq_iald hF 16 0 rfl rfl hi hd k
theorem Cs_16 (hF : jF D R nL X cc own (cw :: jG) (jTys cI cZ) ret) {i : Nat} {x : Int32} (hi : i < 24) (hd : decode cc pc = .ok (.iastore, 1)) (k : jJ l D R nL X (wC a cI cZ (sU σ 16 i x)) (pc + 1) L st) : jJ l D R nL X (wC a cI cZ σ) pc L (.int x :: .int (nI i) :: .ref (a 16) :: st) :=
  jq_iastN hF 16 0 _ rfl rfl (by decide) hi rfl hd k
theorem CS_16 (hF : jF D R nL X cc own (cw :: jG) (jTys cI cZ) ret) {i x : Int32} (hi : vp_in i 24) (hd : decode cc pc = .ok (.iastore, 1)) (k : jJ l D R nL X (wC a cI cZ (sU σ 16 i.toNatClampNeg x)) (pc + 1) L st) : jJ l D R nL X (wC a cI cZ σ) pc L (.int x :: .int i :: .ref (a 16) :: st) :=
  jq_iast hF 16 0 _ rfl rfl hi rfl hd k
theorem Cw_17 (f : Nat → Int32) : (wC a cI cZ σ).set 17 (a 17, .inl (cZ, 24, .inl f)) = wC a cI cZ (sF σ 17 f) := rfl
theorem Cl_17 (hF : jF D R nL X cc own (cw :: jG) (jTys cI cZ) ret) {i : Nat} (hi : i < 24) (hd : decode cc pc = .ok (.baload, 1)) (k : jJ l D R nL X (wC a cI cZ σ) (pc + 1) L (.int (σ 17 i) :: st)) : jJ l D R nL X (wC a cI cZ σ) pc L (.int (nI i) :: .ref (a 17) :: st) :=
  jq_zaldN hF 17 1 rfl rfl (by decide) hi hd k
theorem CL_17 (hF : jF D R nL X cc own (cw :: jG) (jTys cI cZ) ret) {i : Int32} (hi : vp_in i 24) (hd : decode cc pc = .ok (.baload, 1)) (k : jJ l D R nL X (wC a cI cZ σ) (pc + 1) L (.int (σ 17 i.toNatClampNeg) :: st)) : jJ l D R nL X (wC a cI cZ σ) pc L (.int i :: .ref (a 17) :: st) :=
  jq_zald hF 17 1 rfl rfl hi hd k
theorem Cs_17 (hF : jF D R nL X cc own (cw :: jG) (jTys cI cZ) ret) {i : Nat} {x : Int32} (hi : i < 24) (hx : vp_nar .boolean x = x) (hd : decode cc pc = .ok (.bastore, 1)) (k : jJ l D R nL X (wC a cI cZ (sU σ 17 i x)) (pc + 1) L st) : jJ l D R nL X (wC a cI cZ σ) pc L (.int x :: .int (nI i) :: .ref (a 17) :: st) :=
  jq_zastN hF 17 1 _ rfl rfl (by decide) hi (by rw [hx]; rfl) hd k
theorem CS_17 (hF : jF D R nL X cc own (cw :: jG) (jTys cI cZ) ret) {i x : Int32} (hi : vp_in i 24) (hx : vp_nar .boolean x = x) (hd : decode cc pc = .ok (.bastore, 1)) (k : jJ l D R nL X (wC a cI cZ (sU σ 17 i.toNatClampNeg x)) (pc + 1) L st) : jJ l D R nL X (wC a cI cZ σ) pc L (.int x :: .int i :: .ref (a 17) :: st) :=
  jq_zast hF 17 1 _ rfl rfl hi (by rw [hx]; rfl) hd k
theorem Cw_18 (f : Nat → Int32) : (wC a cI cZ σ).set 18 (a 18, .inl (cI, 144, .inl f)) = wC a cI cZ (sF σ 18 f) := rfl
theorem Cl_18 (hF : jF D R nL X cc own (cw :: jG) (jTys cI cZ) ret) {i : Nat} (hi : i < 144) (hd : decode cc pc = .ok (.iaload, 1)) (k : jJ l D R nL X (wC a cI cZ σ) (pc + 1) L (.int (σ 18 i) :: st)) : jJ l D R nL X (wC a cI cZ σ) pc L (.int (nI i) :: .ref (a 18) :: st) :=
  jq_ialdN hF 18 0 rfl rfl (by decide) hi hd k
theorem CL_18 (hF : jF D R nL X cc own (cw :: jG) (jTys cI cZ) ret) {i : Int32} (hi : vp_in i 144) (hd : decode cc pc = .ok (.iaload, 1)) (k : jJ l D R nL X (wC a cI cZ σ) (pc + 1) L (.int (σ 18 i.toNatClampNeg) :: st)) : jJ l D R nL X (wC a cI cZ σ) pc L (.int i :: .ref (a 18) :: st) :=
  jq_iald hF 18 0 rfl rfl hi hd k
theorem Cs_18 (hF : jF D R nL X cc own (cw :: jG) (jTys cI cZ) ret) {i : Nat} {x : Int32} (hi : i < 144) (hd : decode cc pc = .ok (.iastore, 1)) (k : jJ l D R nL X (wC a cI cZ (sU σ 18 i x)) (pc + 1) L st) : jJ l D R nL X (wC a cI cZ σ) pc L (.int x :: .int (nI i) :: .ref (a 18) :: st) :=
  jq_iastN hF 18 0 _ rfl rfl (by decide) hi rfl hd k
theorem CS_18 (hF : jF D R nL X cc own (cw :: jG) (jTys cI cZ) ret) {i x : Int32} (hi : vp_in i 144) (hd : decode cc pc = .ok (.iastore, 1)) (k : jJ l D R nL X (wC a cI cZ (sU σ 18 i.toNatClampNeg x)) (pc + 1) L st) : jJ l D R nL X (wC a cI cZ σ) pc L (.int x :: .int i :: .ref (a 18) :: st) :=
  jq_iast hF 18 0 _ rfl rfl hi rfl hd k
theorem Cw_19 (f : Nat → Int32) : (wC a cI cZ σ).set 19 (a 19, .inl (cZ, 24, .inl f)) = wC a cI cZ (sF σ 19 f) := rfl
theorem Cl_19 (hF : jF D R nL X cc own (cw :: jG) (jTys cI cZ) ret) {i : Nat} (hi : i < 24) (hd : decode cc pc = .ok (.baload, 1)) (k : jJ l D R nL X (wC a cI cZ σ) (pc + 1) L (.int (σ 19 i) :: st)) : jJ l D R nL X (wC a cI cZ σ) pc L (.int (nI i) :: .ref (a 19) :: st) :=
  jq_zaldN hF 19 1 rfl rfl (by decide) hi hd k
theorem CL_19 (hF : jF D R nL X cc own (cw :: jG) (jTys cI cZ) ret) {i : Int32} (hi : vp_in i 24) (hd : decode cc pc = .ok (.baload, 1)) (k : jJ l D R nL X (wC a cI cZ σ) (pc + 1) L (.int (σ 19 i.toNatClampNeg) :: st)) : jJ l D R nL X (wC a cI cZ σ) pc L (.int i :: .ref (a 19) :: st) :=
  jq_zald hF 19 1 rfl rfl hi hd k
theorem Cs_19 (hF : jF D R nL X cc own (cw :: jG) (jTys cI cZ) ret) {i : Nat} {x : Int32} (hi : i < 24) (hx : vp_nar .boolean x = x) (hd : decode cc pc = .ok (.bastore, 1)) (k : jJ l D R nL X (wC a cI cZ (sU σ 19 i x)) (pc + 1) L st) : jJ l D R nL X (wC a cI cZ σ) pc L (.int x :: .int (nI i) :: .ref (a 19) :: st) :=
  jq_zastN hF 19 1 _ rfl rfl (by decide) hi (by rw [hx]; rfl) hd k
theorem CS_19 (hF : jF D R nL X cc own (cw :: jG) (jTys cI cZ) ret) {i x : Int32} (hi : vp_in i 24) (hx : vp_nar .boolean x = x) (hd : decode cc pc = .ok (.bastore, 1)) (k : jJ l D R nL X (wC a cI cZ (sU σ 19 i.toNatClampNeg x)) (pc + 1) L st) : jJ l D R nL X (wC a cI cZ σ) pc L (.int x :: .int i :: .ref (a 19) :: st) :=
  jq_zast hF 19 1 _ rfl rfl hi (by rw [hx]; rfl) hd k
theorem Cw_20 (f : Nat → Int32) : (wC a cI cZ σ).set 20 (a 20, .inl (cI, 144, .inl f)) = wC a cI cZ (sF σ 20 f) := rfl
theorem Cl_20 (hF : jF D R nL X cc own (cw :: jG) (jTys cI cZ) ret) {i : Nat} (hi : i < 144) (hd : decode cc pc = .ok (.iaload, 1)) (k : jJ l D R nL X (wC a cI cZ σ) (pc + 1) L (.int (σ 20 i) :: st)) : jJ l D R nL X (wC a cI cZ σ) pc L (.int (nI i) :: .ref (a 20) :: st) :=
  jq_ialdN hF 20 0 rfl rfl (by decide) hi hd k
theorem CL_20 (hF : jF D R nL X cc own (cw :: jG) (jTys cI cZ) ret) {i : Int32} (hi : vp_in i 144) (hd : decode cc pc = .ok (.iaload, 1)) (k : jJ l D R nL X (wC a cI cZ σ) (pc + 1) L (.int (σ 20 i.toNatClampNeg) :: st)) : jJ l D R nL X (wC a cI cZ σ) pc L (.int i :: .ref (a 20) :: st) :=
  jq_iald hF 20 0 rfl rfl hi hd k
theorem Cs_20 (hF : jF D R nL X cc own (cw :: jG) (jTys cI cZ) ret) {i : Nat} {x : Int32} (hi : i < 144) (hd : decode cc pc = .ok (.iastore, 1)) (k : jJ l D R nL X (wC a cI cZ (sU σ 20 i x)) (pc + 1) L st) : jJ l D R nL X (wC a cI cZ σ) pc L (.int x :: .int (nI i) :: .ref (a 20) :: st) :=
  jq_iastN hF 20 0 _ rfl rfl (by decide) hi rfl hd k
theorem CS_20 (hF : jF D R nL X cc own (cw :: jG) (jTys cI cZ) ret) {i x : Int32} (hi : vp_in i 144) (hd : decode cc pc = .ok (.iastore, 1)) (k : jJ l D R nL X (wC a cI cZ (sU σ 20 i.toNatClampNeg x)) (pc + 1) L st) : jJ l D R nL X (wC a cI cZ σ) pc L (.int x :: .int i :: .ref (a 20) :: st) :=
  jq_iast hF 20 0 _ rfl rfl hi rfl hd k
theorem Cw_21 (f : Nat → Int32) : (wC a cI cZ σ).set 21 (a 21, .inl (cZ, 24, .inl f)) = wC a cI cZ (sF σ 21 f) := rfl
theorem Cl_21 (hF : jF D R nL X cc own (cw :: jG) (jTys cI cZ) ret) {i : Nat} (hi : i < 24) (hd : decode cc pc = .ok (.baload, 1)) (k : jJ l D R nL X (wC a cI cZ σ) (pc + 1) L (.int (σ 21 i) :: st)) : jJ l D R nL X (wC a cI cZ σ) pc L (.int (nI i) :: .ref (a 21) :: st) :=
  jq_zaldN hF 21 1 rfl rfl (by decide) hi hd k
theorem CL_21 (hF : jF D R nL X cc own (cw :: jG) (jTys cI cZ) ret) {i : Int32} (hi : vp_in i 24) (hd : decode cc pc = .ok (.baload, 1)) (k : jJ l D R nL X (wC a cI cZ σ) (pc + 1) L (.int (σ 21 i.toNatClampNeg) :: st)) : jJ l D R nL X (wC a cI cZ σ) pc L (.int i :: .ref (a 21) :: st) :=
  jq_zald hF 21 1 rfl rfl hi hd k
theorem Cs_21 (hF : jF D R nL X cc own (cw :: jG) (jTys cI cZ) ret) {i : Nat} {x : Int32} (hi : i < 24) (hx : vp_nar .boolean x = x) (hd : decode cc pc = .ok (.bastore, 1)) (k : jJ l D R nL X (wC a cI cZ (sU σ 21 i x)) (pc + 1) L st) : jJ l D R nL X (wC a cI cZ σ) pc L (.int x :: .int (nI i) :: .ref (a 21) :: st) :=
  jq_zastN hF 21 1 _ rfl rfl (by decide) hi (by rw [hx]; rfl) hd k
theorem CS_21 (hF : jF D R nL X cc own (cw :: jG) (jTys cI cZ) ret) {i x : Int32} (hi : vp_in i 24) (hx : vp_nar .boolean x = x) (hd : decode cc pc = .ok (.bastore, 1)) (k : jJ l D R nL X (wC a cI cZ (sU σ 21 i.toNatClampNeg x)) (pc + 1) L st) : jJ l D R nL X (wC a cI cZ σ) pc L (.int x :: .int i :: .ref (a 21) :: st) :=
  jq_zast hF 21 1 _ rfl rfl hi (by rw [hx]; rfl) hd k
theorem Cw_22 (f : Nat → Int32) : (wC a cI cZ σ).set 22 (a 22, .inl (cI, 6, .inl f)) = wC a cI cZ (sF σ 22 f) := rfl
theorem Cl_22 (hF : jF D R nL X cc own (cw :: jG) (jTys cI cZ) ret) {i : Nat} (hi : i < 6) (hd : decode cc pc = .ok (.iaload, 1)) (k : jJ l D R nL X (wC a cI cZ σ) (pc + 1) L (.int (σ 22 i) :: st)) : jJ l D R nL X (wC a cI cZ σ) pc L (.int (nI i) :: .ref (a 22) :: st) :=
  jq_ialdN hF 22 0 rfl rfl (by decide) hi hd k
theorem CL_22 (hF : jF D R nL X cc own (cw :: jG) (jTys cI cZ) ret) {i : Int32} (hi : vp_in i 6) (hd : decode cc pc = .ok (.iaload, 1)) (k : jJ l D R nL X (wC a cI cZ σ) (pc + 1) L (.int (σ 22 i.toNatClampNeg) :: st)) : jJ l D R nL X (wC a cI cZ σ) pc L (.int i :: .ref (a 22) :: st) :=
  jq_iald hF 22 0 rfl rfl hi hd k
theorem Cs_22 (hF : jF D R nL X cc own (cw :: jG) (jTys cI cZ) ret) {i : Nat} {x : Int32} (hi : i < 6) (hd : decode cc pc = .ok (.iastore, 1)) (k : jJ l D R nL X (wC a cI cZ (sU σ 22 i x)) (pc + 1) L st) : jJ l D R nL X (wC a cI cZ σ) pc L (.int x :: .int (nI i) :: .ref (a 22) :: st) :=
  jq_iastN hF 22 0 _ rfl rfl (by decide) hi rfl hd k
theorem CS_22 (hF : jF D R nL X cc own (cw :: jG) (jTys cI cZ) ret) {i x : Int32} (hi : vp_in i 6) (hd : decode cc pc = .ok (.iastore, 1)) (k : jJ l D R nL X (wC a cI cZ (sU σ 22 i.toNatClampNeg x)) (pc + 1) L st) : jJ l D R nL X (wC a cI cZ σ) pc L (.int x :: .int i :: .ref (a 22) :: st) :=
  jq_iast hF 22 0 _ rfl rfl hi rfl hd k
theorem Cw_23 (f : Nat → Int32) : (wC a cI cZ σ).set 23 (a 23, .inl (cI, 6, .inl f)) = wC a cI cZ (sF σ 23 f) := rfl
theorem Cl_23 (hF : jF D R nL X cc own (cw :: jG) (jTys cI cZ) ret) {i : Nat} (hi : i < 6) (hd : decode cc pc = .ok (.iaload, 1)) (k : jJ l D R nL X (wC a cI cZ σ) (pc + 1) L (.int (σ 23 i) :: st)) : jJ l D R nL X (wC a cI cZ σ) pc L (.int (nI i) :: .ref (a 23) :: st) :=
  jq_ialdN hF 23 0 rfl rfl (by decide) hi hd k
theorem CL_23 (hF : jF D R nL X cc own (cw :: jG) (jTys cI cZ) ret) {i : Int32} (hi : vp_in i 6) (hd : decode cc pc = .ok (.iaload, 1)) (k : jJ l D R nL X (wC a cI cZ σ) (pc + 1) L (.int (σ 23 i.toNatClampNeg) :: st)) : jJ l D R nL X (wC a cI cZ σ) pc L (.int i :: .ref (a 23) :: st) :=
  jq_iald hF 23 0 rfl rfl hi hd k
theorem Cs_23 (hF : jF D R nL X cc own (cw :: jG) (jTys cI cZ) ret) {i : Nat} {x : Int32} (hi : i < 6) (hd : decode cc pc = .ok (.iastore, 1)) (k : jJ l D R nL X (wC a cI cZ (sU σ 23 i x)) (pc + 1) L st) : jJ l D R nL X (wC a cI cZ σ) pc L (.int x :: .int (nI i) :: .ref (a 23) :: st) :=
  jq_iastN hF 23 0 _ rfl rfl (by decide) hi rfl hd k
theorem CS_23 (hF : jF D R nL X cc own (cw :: jG) (jTys cI cZ) ret) {i x : Int32} (hi : vp_in i 6) (hd : decode cc pc = .ok (.iastore, 1)) (k : jJ l D R nL X (wC a cI cZ (sU σ 23 i.toNatClampNeg x)) (pc + 1) L st) : jJ l D R nL X (wC a cI cZ σ) pc L (.int x :: .int i :: .ref (a 23) :: st) :=
  jq_iast hF 23 0 _ rfl rfl hi rfl hd k
theorem Cw_24 (f : Nat → Int32) : (wC a cI cZ σ).set 24 (a 24, .inl (cI, 6, .inl f)) = wC a cI cZ (sF σ 24 f) := rfl
theorem Cl_24 (hF : jF D R nL X cc own (cw :: jG) (jTys cI cZ) ret) {i : Nat} (hi : i < 6) (hd : decode cc pc = .ok (.iaload, 1)) (k : jJ l D R nL X (wC a cI cZ σ) (pc + 1) L (.int (σ 24 i) :: st)) : jJ l D R nL X (wC a cI cZ σ) pc L (.int (nI i) :: .ref (a 24) :: st) :=
  jq_ialdN hF 24 0 rfl rfl (by decide) hi hd k
theorem CL_24 (hF : jF D R nL X cc own (cw :: jG) (jTys cI cZ) ret) {i : Int32} (hi : vp_in i 6) (hd : decode cc pc = .ok (.iaload, 1)) (k : jJ l D R nL X (wC a cI cZ σ) (pc + 1) L (.int (σ 24 i.toNatClampNeg) :: st)) : jJ l D R nL X (wC a cI cZ σ) pc L (.int i :: .ref (a 24) :: st) :=
  jq_iald hF 24 0 rfl rfl hi hd k
theorem Cs_24 (hF : jF D R nL X cc own (cw :: jG) (jTys cI cZ) ret) {i : Nat} {x : Int32} (hi : i < 6) (hd : decode cc pc = .ok (.iastore, 1)) (k : jJ l D R nL X (wC a cI cZ (sU σ 24 i x)) (pc + 1) L st) : jJ l D R nL X (wC a cI cZ σ) pc L (.int x :: .int (nI i) :: .ref (a 24) :: st) :=
  jq_iastN hF 24 0 _ rfl rfl (by decide) hi rfl hd k
theorem CS_24 (hF : jF D R nL X cc own (cw :: jG) (jTys cI cZ) ret) {i x : Int32} (hi : vp_in i 6) (hd : decode cc pc = .ok (.iastore, 1)) (k : jJ l D R nL X (wC a cI cZ (sU σ 24 i.toNatClampNeg x)) (pc + 1) L st) : jJ l D R nL X (wC a cI cZ σ) pc L (.int x :: .int i :: .ref (a 24) :: st) :=
  jq_iast hF 24 0 _ rfl rfl hi rfl hd k
theorem Cw_25 (f : Nat → Int32) : (wC a cI cZ σ).set 25 (a 25, .inl (cI, 24, .inl f)) = wC a cI cZ (sF σ 25 f) := rfl
theorem Cl_25 (hF : jF D R nL X cc own (cw :: jG) (jTys cI cZ) ret) {i : Nat} (hi : i < 24) (hd : decode cc pc = .ok (.iaload, 1)) (k : jJ l D R nL X (wC a cI cZ σ) (pc + 1) L (.int (σ 25 i) :: st)) : jJ l D R nL X (wC a cI cZ σ) pc L (.int (nI i) :: .ref (a 25) :: st) :=
  jq_ialdN hF 25 0 rfl rfl (by decide) hi hd k
theorem CL_25 (hF : jF D R nL X cc own (cw :: jG) (jTys cI cZ) ret) {i : Int32} (hi : vp_in i 24) (hd : decode cc pc = .ok (.iaload, 1)) (k : jJ l D R nL X (wC a cI cZ σ) (pc + 1) L (.int (σ 25 i.toNatClampNeg) :: st)) : jJ l D R nL X (wC a cI cZ σ) pc L (.int i :: .ref (a 25) :: st) :=
  jq_iald hF 25 0 rfl rfl hi hd k
theorem Cs_25 (hF : jF D R nL X cc own (cw :: jG) (jTys cI cZ) ret) {i : Nat} {x : Int32} (hi : i < 24) (hd : decode cc pc = .ok (.iastore, 1)) (k : jJ l D R nL X (wC a cI cZ (sU σ 25 i x)) (pc + 1) L st) : jJ l D R nL X (wC a cI cZ σ) pc L (.int x :: .int (nI i) :: .ref (a 25) :: st) :=
  jq_iastN hF 25 0 _ rfl rfl (by decide) hi rfl hd k
theorem CS_25 (hF : jF D R nL X cc own (cw :: jG) (jTys cI cZ) ret) {i x : Int32} (hi : vp_in i 24) (hd : decode cc pc = .ok (.iastore, 1)) (k : jJ l D R nL X (wC a cI cZ (sU σ 25 i.toNatClampNeg x)) (pc + 1) L st) : jJ l D R nL X (wC a cI cZ σ) pc L (.int x :: .int i :: .ref (a 25) :: st) :=
  jq_iast hF 25 0 _ rfl rfl hi rfl hd k
theorem Cw_26 (f : Nat → Int32) : (wC a cI cZ σ).set 26 (a 26, .inl (cI, 24, .inl f)) = wC a cI cZ (sF σ 26 f) := rfl
theorem Cl_26 (hF : jF D R nL X cc own (cw :: jG) (jTys cI cZ) ret) {i : Nat} (hi : i < 24) (hd : decode cc pc = .ok (.iaload, 1)) (k : jJ l D R nL X (wC a cI cZ σ) (pc + 1) L (.int (σ 26 i) :: st)) : jJ l D R nL X (wC a cI cZ σ) pc L (.int (nI i) :: .ref (a 26) :: st) :=
  jq_ialdN hF 26 0 rfl rfl (by decide) hi hd k
theorem CL_26 (hF : jF D R nL X cc own (cw :: jG) (jTys cI cZ) ret) {i : Int32} (hi : vp_in i 24) (hd : decode cc pc = .ok (.iaload, 1)) (k : jJ l D R nL X (wC a cI cZ σ) (pc + 1) L (.int (σ 26 i.toNatClampNeg) :: st)) : jJ l D R nL X (wC a cI cZ σ) pc L (.int i :: .ref (a 26) :: st) :=
  jq_iald hF 26 0 rfl rfl hi hd k
theorem Cs_26 (hF : jF D R nL X cc own (cw :: jG) (jTys cI cZ) ret) {i : Nat} {x : Int32} (hi : i < 24) (hd : decode cc pc = .ok (.iastore, 1)) (k : jJ l D R nL X (wC a cI cZ (sU σ 26 i x)) (pc + 1) L st) : jJ l D R nL X (wC a cI cZ σ) pc L (.int x :: .int (nI i) :: .ref (a 26) :: st) :=
  jq_iastN hF 26 0 _ rfl rfl (by decide) hi rfl hd k
theorem CS_26 (hF : jF D R nL X cc own (cw :: jG) (jTys cI cZ) ret) {i x : Int32} (hi : vp_in i 24) (hd : decode cc pc = .ok (.iastore, 1)) (k : jJ l D R nL X (wC a cI cZ (sU σ 26 i.toNatClampNeg x)) (pc + 1) L st) : jJ l D R nL X (wC a cI cZ σ) pc L (.int x :: .int i :: .ref (a 26) :: st) :=
  jq_iast hF 26 0 _ rfl rfl hi rfl hd k
theorem Cw_27 (f : Nat → Int32) : (wC a cI cZ σ).set 27 (a 27, .inl (cI, 24, .inl f)) = wC a cI cZ (sF σ 27 f) := rfl
theorem Cl_27 (hF : jF D R nL X cc own (cw :: jG) (jTys cI cZ) ret) {i : Nat} (hi : i < 24) (hd : decode cc pc = .ok (.iaload, 1)) (k : jJ l D R nL X (wC a cI cZ σ) (pc + 1) L (.int (σ 27 i) :: st)) : jJ l D R nL X (wC a cI cZ σ) pc L (.int (nI i) :: .ref (a 27) :: st) :=
  jq_ialdN hF 27 0 rfl rfl (by decide) hi hd k
theorem CL_27 (hF : jF D R nL X cc own (cw :: jG) (jTys cI cZ) ret) {i : Int32} (hi : vp_in i 24) (hd : decode cc pc = .ok (.iaload, 1)) (k : jJ l D R nL X (wC a cI cZ σ) (pc + 1) L (.int (σ 27 i.toNatClampNeg) :: st)) : jJ l D R nL X (wC a cI cZ σ) pc L (.int i :: .ref (a 27) :: st) :=
  jq_iald hF 27 0 rfl rfl hi hd k
theorem Cs_27 (hF : jF D R nL X cc own (cw :: jG) (jTys cI cZ) ret) {i : Nat} {x : Int32} (hi : i < 24) (hd : decode cc pc = .ok (.iastore, 1)) (k : jJ l D R nL X (wC a cI cZ (sU σ 27 i x)) (pc + 1) L st) : jJ l D R nL X (wC a cI cZ σ) pc L (.int x :: .int (nI i) :: .ref (a 27) :: st) :=
  jq_iastN hF 27 0 _ rfl rfl (by decide) hi rfl hd k
theorem CS_27 (hF : jF D R nL X cc own (cw :: jG) (jTys cI cZ) ret) {i x : Int32} (hi : vp_in i 24) (hd : decode cc pc = .ok (.iastore, 1)) (k : jJ l D R nL X (wC a cI cZ (sU σ 27 i.toNatClampNeg x)) (pc + 1) L st) : jJ l D R nL X (wC a cI cZ σ) pc L (.int x :: .int i :: .ref (a 27) :: st) :=
  jq_iast hF 27 0 _ rfl rfl hi rfl hd k
theorem Cw_28 (f : Nat → Int32) : (wC a cI cZ σ).set 28 (a 28, .inl (cI, 6, .inl f)) = wC a cI cZ (sF σ 28 f) := rfl
theorem Cl_28 (hF : jF D R nL X cc own (cw :: jG) (jTys cI cZ) ret) {i : Nat} (hi : i < 6) (hd : decode cc pc = .ok (.iaload, 1)) (k : jJ l D R nL X (wC a cI cZ σ) (pc + 1) L (.int (σ 28 i) :: st)) : jJ l D R nL X (wC a cI cZ σ) pc L (.int (nI i) :: .ref (a 28) :: st) :=
  jq_ialdN hF 28 0 rfl rfl (by decide) hi hd k
theorem CL_28 (hF : jF D R nL X cc own (cw :: jG) (jTys cI cZ) ret) {i : Int32} (hi : vp_in i 6) (hd : decode cc pc = .ok (.iaload, 1)) (k : jJ l D R nL X (wC a cI cZ σ) (pc + 1) L (.int (σ 28 i.toNatClampNeg) :: st)) : jJ l D R nL X (wC a cI cZ σ) pc L (.int i :: .ref (a 28) :: st) :=
  jq_iald hF 28 0 rfl rfl hi hd k
theorem Cs_28 (hF : jF D R nL X cc own (cw :: jG) (jTys cI cZ) ret) {i : Nat} {x : Int32} (hi : i < 6) (hd : decode cc pc = .ok (.iastore, 1)) (k : jJ l D R nL X (wC a cI cZ (sU σ 28 i x)) (pc + 1) L st) : jJ l D R nL X (wC a cI cZ σ) pc L (.int x :: .int (nI i) :: .ref (a 28) :: st) :=
  jq_iastN hF 28 0 _ rfl rfl (by decide) hi rfl hd k
theorem CS_28 (hF : jF D R nL X cc own (cw :: jG) (jTys cI cZ) ret) {i x : Int32} (hi : vp_in i 6) (hd : decode cc pc = .ok (.iastore, 1)) (k : jJ l D R nL X (wC a cI cZ (sU σ 28 i.toNatClampNeg x)) (pc + 1) L st) : jJ l D R nL X (wC a cI cZ σ) pc L (.int x :: .int i :: .ref (a 28) :: st) :=
  jq_iast hF 28 0 _ rfl rfl hi rfl hd k
theorem Cw_29 (f : Nat → Int32) : (wC a cI cZ σ).set 29 (a 29, .inl (cZ, 6, .inl f)) = wC a cI cZ (sF σ 29 f) := rfl
theorem Cl_29 (hF : jF D R nL X cc own (cw :: jG) (jTys cI cZ) ret) {i : Nat} (hi : i < 6) (hd : decode cc pc = .ok (.baload, 1)) (k : jJ l D R nL X (wC a cI cZ σ) (pc + 1) L (.int (σ 29 i) :: st)) : jJ l D R nL X (wC a cI cZ σ) pc L (.int (nI i) :: .ref (a 29) :: st) :=
  jq_zaldN hF 29 1 rfl rfl (by decide) hi hd k
theorem CL_29 (hF : jF D R nL X cc own (cw :: jG) (jTys cI cZ) ret) {i : Int32} (hi : vp_in i 6) (hd : decode cc pc = .ok (.baload, 1)) (k : jJ l D R nL X (wC a cI cZ σ) (pc + 1) L (.int (σ 29 i.toNatClampNeg) :: st)) : jJ l D R nL X (wC a cI cZ σ) pc L (.int i :: .ref (a 29) :: st) :=
  jq_zald hF 29 1 rfl rfl hi hd k
theorem Cs_29 (hF : jF D R nL X cc own (cw :: jG) (jTys cI cZ) ret) {i : Nat} {x : Int32} (hi : i < 6) (hx : vp_nar .boolean x = x) (hd : decode cc pc = .ok (.bastore, 1)) (k : jJ l D R nL X (wC a cI cZ (sU σ 29 i x)) (pc + 1) L st) : jJ l D R nL X (wC a cI cZ σ) pc L (.int x :: .int (nI i) :: .ref (a 29) :: st) :=
  jq_zastN hF 29 1 _ rfl rfl (by decide) hi (by rw [hx]; rfl) hd k
theorem CS_29 (hF : jF D R nL X cc own (cw :: jG) (jTys cI cZ) ret) {i x : Int32} (hi : vp_in i 6) (hx : vp_nar .boolean x = x) (hd : decode cc pc = .ok (.bastore, 1)) (k : jJ l D R nL X (wC a cI cZ (sU σ 29 i.toNatClampNeg x)) (pc + 1) L st) : jJ l D R nL X (wC a cI cZ σ) pc L (.int x :: .int i :: .ref (a 29) :: st) :=
  jq_zast hF 29 1 _ rfl rfl hi (by rw [hx]; rfl) hd k
theorem Cw_30 (f : Nat → Int32) : (wC a cI cZ σ).set 30 (a 30, .inl (cZ, 6, .inl f)) = wC a cI cZ (sF σ 30 f) := rfl
theorem Cl_30 (hF : jF D R nL X cc own (cw :: jG) (jTys cI cZ) ret) {i : Nat} (hi : i < 6) (hd : decode cc pc = .ok (.baload, 1)) (k : jJ l D R nL X (wC a cI cZ σ) (pc + 1) L (.int (σ 30 i) :: st)) : jJ l D R nL X (wC a cI cZ σ) pc L (.int (nI i) :: .ref (a 30) :: st) :=
  jq_zaldN hF 30 1 rfl rfl (by decide) hi hd k
theorem CL_30 (hF : jF D R nL X cc own (cw :: jG) (jTys cI cZ) ret) {i : Int32} (hi : vp_in i 6) (hd : decode cc pc = .ok (.baload, 1)) (k : jJ l D R nL X (wC a cI cZ σ) (pc + 1) L (.int (σ 30 i.toNatClampNeg) :: st)) : jJ l D R nL X (wC a cI cZ σ) pc L (.int i :: .ref (a 30) :: st) :=
  jq_zald hF 30 1 rfl rfl hi hd k
theorem Cs_30 (hF : jF D R nL X cc own (cw :: jG) (jTys cI cZ) ret) {i : Nat} {x : Int32} (hi : i < 6) (hx : vp_nar .boolean x = x) (hd : decode cc pc = .ok (.bastore, 1)) (k : jJ l D R nL X (wC a cI cZ (sU σ 30 i x)) (pc + 1) L st) : jJ l D R nL X (wC a cI cZ σ) pc L (.int x :: .int (nI i) :: .ref (a 30) :: st) :=
  jq_zastN hF 30 1 _ rfl rfl (by decide) hi (by rw [hx]; rfl) hd k
theorem CS_30 (hF : jF D R nL X cc own (cw :: jG) (jTys cI cZ) ret) {i x : Int32} (hi : vp_in i 6) (hx : vp_nar .boolean x = x) (hd : decode cc pc = .ok (.bastore, 1)) (k : jJ l D R nL X (wC a cI cZ (sU σ 30 i.toNatClampNeg x)) (pc + 1) L st) : jJ l D R nL X (wC a cI cZ σ) pc L (.int x :: .int i :: .ref (a 30) :: st) :=
  jq_zast hF 30 1 _ rfl rfl hi (by rw [hx]; rfl) hd k
theorem Cw_31 (f : Nat → Int32) : (wC a cI cZ σ).set 31 (a 31, .inl (cI, 168, .inl f)) = wC a cI cZ (sF σ 31 f) := rfl
theorem Cl_31 (hF : jF D R nL X cc own (cw :: jG) (jTys cI cZ) ret) {i : Nat} (hi : i < 168) (hd : decode cc pc = .ok (.iaload, 1)) (k : jJ l D R nL X (wC a cI cZ σ) (pc + 1) L (.int (σ 31 i) :: st)) : jJ l D R nL X (wC a cI cZ σ) pc L (.int (nI i) :: .ref (a 31) :: st) :=
  jq_ialdN hF 31 0 rfl rfl (by decide) hi hd k
theorem CL_31 (hF : jF D R nL X cc own (cw :: jG) (jTys cI cZ) ret) {i : Int32} (hi : vp_in i 168) (hd : decode cc pc = .ok (.iaload, 1)) (k : jJ l D R nL X (wC a cI cZ σ) (pc + 1) L (.int (σ 31 i.toNatClampNeg) :: st)) : jJ l D R nL X (wC a cI cZ σ) pc L (.int i :: .ref (a 31) :: st) :=
  jq_iald hF 31 0 rfl rfl hi hd k
theorem Cs_31 (hF : jF D R nL X cc own (cw :: jG) (jTys cI cZ) ret) {i : Nat} {x : Int32} (hi : i < 168) (hd : decode cc pc = .ok (.iastore, 1)) (k : jJ l D R nL X (wC a cI cZ (sU σ 31 i x)) (pc + 1) L st) : jJ l D R nL X (wC a cI cZ σ) pc L (.int x :: .int (nI i) :: .ref (a 31) :: st) :=
  jq_iastN hF 31 0 _ rfl rfl (by decide) hi rfl hd k
theorem CS_31 (hF : jF D R nL X cc own (cw :: jG) (jTys cI cZ) ret) {i x : Int32} (hi : vp_in i 168) (hd : decode cc pc = .ok (.iastore, 1)) (k : jJ l D R nL X (wC a cI cZ (sU σ 31 i.toNatClampNeg x)) (pc + 1) L st) : jJ l D R nL X (wC a cI cZ σ) pc L (.int x :: .int i :: .ref (a 31) :: st) :=
  jq_iast hF 31 0 _ rfl rfl hi rfl hd k
theorem Cw_32 (f : Nat → Int32) : (wC a cI cZ σ).set 32 (a 32, .inl (cI, 168, .inl f)) = wC a cI cZ (sF σ 32 f) := rfl
theorem Cl_32 (hF : jF D R nL X cc own (cw :: jG) (jTys cI cZ) ret) {i : Nat} (hi : i < 168) (hd : decode cc pc = .ok (.iaload, 1)) (k : jJ l D R nL X (wC a cI cZ σ) (pc + 1) L (.int (σ 32 i) :: st)) : jJ l D R nL X (wC a cI cZ σ) pc L (.int (nI i) :: .ref (a 32) :: st) :=
  jq_ialdN hF 32 0 rfl rfl (by decide) hi hd k
theorem CL_32 (hF : jF D R nL X cc own (cw :: jG) (jTys cI cZ) ret) {i : Int32} (hi : vp_in i 168) (hd : decode cc pc = .ok (.iaload, 1)) (k : jJ l D R nL X (wC a cI cZ σ) (pc + 1) L (.int (σ 32 i.toNatClampNeg) :: st)) : jJ l D R nL X (wC a cI cZ σ) pc L (.int i :: .ref (a 32) :: st) :=
  jq_iald hF 32 0 rfl rfl hi hd k
theorem Cs_32 (hF : jF D R nL X cc own (cw :: jG) (jTys cI cZ) ret) {i : Nat} {x : Int32} (hi : i < 168) (hd : decode cc pc = .ok (.iastore, 1)) (k : jJ l D R nL X (wC a cI cZ (sU σ 32 i x)) (pc + 1) L st) : jJ l D R nL X (wC a cI cZ σ) pc L (.int x :: .int (nI i) :: .ref (a 32) :: st) :=
  jq_iastN hF 32 0 _ rfl rfl (by decide) hi rfl hd k
theorem CS_32 (hF : jF D R nL X cc own (cw :: jG) (jTys cI cZ) ret) {i x : Int32} (hi : vp_in i 168) (hd : decode cc pc = .ok (.iastore, 1)) (k : jJ l D R nL X (wC a cI cZ (sU σ 32 i.toNatClampNeg x)) (pc + 1) L st) : jJ l D R nL X (wC a cI cZ σ) pc L (.int x :: .int i :: .ref (a 32) :: st) :=
  jq_iast hF 32 0 _ rfl rfl hi rfl hd k
theorem Cw_33 (f : Nat → Int32) : (wC a cI cZ σ).set 33 (a 33, .inl (cI, 61, .inl f)) = wC a cI cZ (sF σ 33 f) := rfl
theorem Cl_33 (hF : jF D R nL X cc own (cw :: jG) (jTys cI cZ) ret) {i : Nat} (hi : i < 61) (hd : decode cc pc = .ok (.iaload, 1)) (k : jJ l D R nL X (wC a cI cZ σ) (pc + 1) L (.int (σ 33 i) :: st)) : jJ l D R nL X (wC a cI cZ σ) pc L (.int (nI i) :: .ref (a 33) :: st) :=
  jq_ialdN hF 33 0 rfl rfl (by decide) hi hd k
theorem CL_33 (hF : jF D R nL X cc own (cw :: jG) (jTys cI cZ) ret) {i : Int32} (hi : vp_in i 61) (hd : decode cc pc = .ok (.iaload, 1)) (k : jJ l D R nL X (wC a cI cZ σ) (pc + 1) L (.int (σ 33 i.toNatClampNeg) :: st)) : jJ l D R nL X (wC a cI cZ σ) pc L (.int i :: .ref (a 33) :: st) :=
  jq_iald hF 33 0 rfl rfl hi hd k
theorem Cs_33 (hF : jF D R nL X cc own (cw :: jG) (jTys cI cZ) ret) {i : Nat} {x : Int32} (hi : i < 61) (hd : decode cc pc = .ok (.iastore, 1)) (k : jJ l D R nL X (wC a cI cZ (sU σ 33 i x)) (pc + 1) L st) : jJ l D R nL X (wC a cI cZ σ) pc L (.int x :: .int (nI i) :: .ref (a 33) :: st) :=
  jq_iastN hF 33 0 _ rfl rfl (by decide) hi rfl hd k
theorem CS_33 (hF : jF D R nL X cc own (cw :: jG) (jTys cI cZ) ret) {i x : Int32} (hi : vp_in i 61) (hd : decode cc pc = .ok (.iastore, 1)) (k : jJ l D R nL X (wC a cI cZ (sU σ 33 i.toNatClampNeg x)) (pc + 1) L st) : jJ l D R nL X (wC a cI cZ σ) pc L (.int x :: .int i :: .ref (a 33) :: st) :=
  jq_iast hF 33 0 _ rfl rfl hi rfl hd k
theorem Cw_34 (f : Nat → Int32) : (wC a cI cZ σ).set 34 (a 34, .inl (cI, 61, .inl f)) = wC a cI cZ (sF σ 34 f) := rfl
theorem Cl_34 (hF : jF D R nL X cc own (cw :: jG) (jTys cI cZ) ret) {i : Nat} (hi : i < 61) (hd : decode cc pc = .ok (.iaload, 1)) (k : jJ l D R nL X (wC a cI cZ σ) (pc + 1) L (.int (σ 34 i) :: st)) : jJ l D R nL X (wC a cI cZ σ) pc L (.int (nI i) :: .ref (a 34) :: st) :=
  jq_ialdN hF 34 0 rfl rfl (by decide) hi hd k
theorem CL_34 (hF : jF D R nL X cc own (cw :: jG) (jTys cI cZ) ret) {i : Int32} (hi : vp_in i 61) (hd : decode cc pc = .ok (.iaload, 1)) (k : jJ l D R nL X (wC a cI cZ σ) (pc + 1) L (.int (σ 34 i.toNatClampNeg) :: st)) : jJ l D R nL X (wC a cI cZ σ) pc L (.int i :: .ref (a 34) :: st) :=
  jq_iald hF 34 0 rfl rfl hi hd k
theorem Cs_34 (hF : jF D R nL X cc own (cw :: jG) (jTys cI cZ) ret) {i : Nat} {x : Int32} (hi : i < 61) (hd : decode cc pc = .ok (.iastore, 1)) (k : jJ l D R nL X (wC a cI cZ (sU σ 34 i x)) (pc + 1) L st) : jJ l D R nL X (wC a cI cZ σ) pc L (.int x :: .int (nI i) :: .ref (a 34) :: st) :=
  jq_iastN hF 34 0 _ rfl rfl (by decide) hi rfl hd k
theorem CS_34 (hF : jF D R nL X cc own (cw :: jG) (jTys cI cZ) ret) {i x : Int32} (hi : vp_in i 61) (hd : decode cc pc = .ok (.iastore, 1)) (k : jJ l D R nL X (wC a cI cZ (sU σ 34 i.toNatClampNeg x)) (pc + 1) L st) : jJ l D R nL X (wC a cI cZ σ) pc L (.int x :: .int i :: .ref (a 34) :: st) :=
  jq_iast hF 34 0 _ rfl rfl hi rfl hd k
theorem Cg_P_50 (hF : jF D R nL X cc rP (cw :: jG) (jTys cI cZ) ret) (hd : decode cc pc = .ok (.getfield 50, 3)) (k : jJ l D R nL X (wC a cI cZ σ) (pc + 3) L (.int (σ 1 0) :: st)) : jJ l D R nL X (wC a cI cZ σ) pc L (.ref (a 1) :: st) :=
  jq_get hF (fun w h => List.mem_cons_of_mem _ (inP w h)) 1 rfl rfl 0 (by decide) (List.mem_cons_of_mem _ mF_P_50) rfl hd k
theorem Cp_P_50 (hF : jF D R nL X cc rP (cw :: jG) (jTys cI cZ) ret) {x : Int32} (hd : decode cc pc = .ok (.putfield 50, 3)) (k : jJ l D R nL X (wC a cI cZ (sU σ 1 0 x)) (pc + 3) L st) : jJ l D R nL X (wC a cI cZ σ) pc L (.int x :: .ref (a 1) :: st) :=
  jq_put hF _ (fun w h => List.mem_cons_of_mem _ (inP w h)) tyP tkP nmP 1 rfl rfl 0 (by decide) (List.mem_cons_of_mem _ mF_P_50) rfl rfl rfl rfl (Nat.le_of_ble_eq_true rfl) rfl hd k
theorem Cg_N_59 (hF : jF D R nL X cc rN (cw :: jG) (jTys cI cZ) ret) (hd : decode cc pc = .ok (.getfield 59, 3)) (k : jJ l D R nL X (wC a cI cZ σ) (pc + 3) L (.int (σ 1 0) :: st)) : jJ l D R nL X (wC a cI cZ σ) pc L (.ref (a 1) :: st) :=
  jq_get hF (fun w h => List.mem_cons_of_mem _ (inP w h)) 1 rfl rfl 0 (by decide) (List.mem_cons_of_mem _ mF_N_59) rfl hd k
theorem Cp_N_59 (hF : jF D R nL X cc rN (cw :: jG) (jTys cI cZ) ret) {x : Int32} (hd : decode cc pc = .ok (.putfield 59, 3)) (k : jJ l D R nL X (wC a cI cZ (sU σ 1 0 x)) (pc + 3) L st) : jJ l D R nL X (wC a cI cZ σ) pc L (.int x :: .ref (a 1) :: st) :=
  jq_put hF _ (fun w h => List.mem_cons_of_mem _ (inP w h)) tyP tkP nmP 1 rfl rfl 0 (by decide) (List.mem_cons_of_mem _ mF_N_59) rfl rfl rfl rfl (Nat.le_of_ble_eq_true rfl) rfl hd k
theorem Cg_T_90 (hF : jF D R nL X cc rT (cw :: jG) (jTys cI cZ) ret) (hd : decode cc pc = .ok (.getfield 90, 3)) (k : jJ l D R nL X (wC a cI cZ σ) (pc + 3) L (.int (σ 1 0) :: st)) : jJ l D R nL X (wC a cI cZ σ) pc L (.ref (a 1) :: st) :=
  jq_get hF (fun w h => List.mem_cons_of_mem _ (inP w h)) 1 rfl rfl 0 (by decide) (List.mem_cons_of_mem _ mF_T_90) rfl hd k
theorem Cp_T_90 (hF : jF D R nL X cc rT (cw :: jG) (jTys cI cZ) ret) {x : Int32} (hd : decode cc pc = .ok (.putfield 90, 3)) (k : jJ l D R nL X (wC a cI cZ (sU σ 1 0 x)) (pc + 3) L st) : jJ l D R nL X (wC a cI cZ σ) pc L (.int x :: .ref (a 1) :: st) :=
  jq_put hF _ (fun w h => List.mem_cons_of_mem _ (inP w h)) tyP tkP nmP 1 rfl rfl 0 (by decide) (List.mem_cons_of_mem _ mF_T_90) rfl rfl rfl rfl (Nat.le_of_ble_eq_true rfl) rfl hd k
theorem Cg_P_9 (hF : jF D R nL X cc rP (cw :: jG) (jTys cI cZ) ret) (hd : decode cc pc = .ok (.getfield 9, 3)) (k : jJ l D R nL X (wC a cI cZ σ) (pc + 3) L (.ref (a 6) :: st)) : jJ l D R nL X (wC a cI cZ σ) pc L (.ref (a 1) :: st) :=
  jq_get hF (fun w h => List.mem_cons_of_mem _ (inP w h)) 1 rfl rfl 1 (by decide) (List.mem_cons_of_mem _ mF_P_9) rfl hd k
theorem Cg_T_110 (hF : jF D R nL X cc rT (cw :: jG) (jTys cI cZ) ret) (hd : decode cc pc = .ok (.getfield 110, 3)) (k : jJ l D R nL X (wC a cI cZ σ) (pc + 3) L (.ref (a 6) :: st)) : jJ l D R nL X (wC a cI cZ σ) pc L (.ref (a 1) :: st) :=
  jq_get hF (fun w h => List.mem_cons_of_mem _ (inP w h)) 1 rfl rfl 1 (by decide) (List.mem_cons_of_mem _ mF_T_110) rfl hd k
theorem Cg_P_53 (hF : jF D R nL X cc rP (cw :: jG) (jTys cI cZ) ret) (hd : decode cc pc = .ok (.getfield 53, 3)) (k : jJ l D R nL X (wC a cI cZ σ) (pc + 3) L (.int (σ 1 1) :: st)) : jJ l D R nL X (wC a cI cZ σ) pc L (.ref (a 1) :: st) :=
  jq_get hF (fun w h => List.mem_cons_of_mem _ (inP w h)) 1 rfl rfl 2 (by decide) (List.mem_cons_of_mem _ mF_P_53) rfl hd k
theorem Cp_P_53 (hF : jF D R nL X cc rP (cw :: jG) (jTys cI cZ) ret) {x : Int32} (hd : decode cc pc = .ok (.putfield 53, 3)) (k : jJ l D R nL X (wC a cI cZ (sU σ 1 1 x)) (pc + 3) L st) : jJ l D R nL X (wC a cI cZ σ) pc L (.int x :: .ref (a 1) :: st) :=
  jq_put hF _ (fun w h => List.mem_cons_of_mem _ (inP w h)) tyP tkP nmP 1 rfl rfl 2 (by decide) (List.mem_cons_of_mem _ mF_P_53) rfl rfl rfl rfl (Nat.le_of_ble_eq_true rfl) rfl hd k
theorem Cg_N_73 (hF : jF D R nL X cc rN (cw :: jG) (jTys cI cZ) ret) (hd : decode cc pc = .ok (.getfield 73, 3)) (k : jJ l D R nL X (wC a cI cZ σ) (pc + 3) L (.int (σ 1 1) :: st)) : jJ l D R nL X (wC a cI cZ σ) pc L (.ref (a 1) :: st) :=
  jq_get hF (fun w h => List.mem_cons_of_mem _ (inP w h)) 1 rfl rfl 2 (by decide) (List.mem_cons_of_mem _ mF_N_73) rfl hd k
theorem Cp_N_73 (hF : jF D R nL X cc rN (cw :: jG) (jTys cI cZ) ret) {x : Int32} (hd : decode cc pc = .ok (.putfield 73, 3)) (k : jJ l D R nL X (wC a cI cZ (sU σ 1 1 x)) (pc + 3) L st) : jJ l D R nL X (wC a cI cZ σ) pc L (.int x :: .ref (a 1) :: st) :=
  jq_put hF _ (fun w h => List.mem_cons_of_mem _ (inP w h)) tyP tkP nmP 1 rfl rfl 2 (by decide) (List.mem_cons_of_mem _ mF_N_73) rfl rfl rfl rfl (Nat.le_of_ble_eq_true rfl) rfl hd k
theorem Cg_P_15 (hF : jF D R nL X cc rP (cw :: jG) (jTys cI cZ) ret) (hd : decode cc pc = .ok (.getfield 15, 3)) (k : jJ l D R nL X (wC a cI cZ σ) (pc + 3) L (.ref (a 7) :: st)) : jJ l D R nL X (wC a cI cZ σ) pc L (.ref (a 1) :: st) :=
  jq_get hF (fun w h => List.mem_cons_of_mem _ (inP w h)) 1 rfl rfl 3 (by decide) (List.mem_cons_of_mem _ mF_P_15) rfl hd k
theorem Cg_N_116 (hF : jF D R nL X cc rN (cw :: jG) (jTys cI cZ) ret) (hd : decode cc pc = .ok (.getfield 116, 3)) (k : jJ l D R nL X (wC a cI cZ σ) (pc + 3) L (.ref (a 7) :: st)) : jJ l D R nL X (wC a cI cZ σ) pc L (.ref (a 1) :: st) :=
  jq_get hF (fun w h => List.mem_cons_of_mem _ (inP w h)) 1 rfl rfl 3 (by decide) (List.mem_cons_of_mem _ mF_N_116) rfl hd k
theorem Cg_P_18 (hF : jF D R nL X cc rP (cw :: jG) (jTys cI cZ) ret) (hd : decode cc pc = .ok (.getfield 18, 3)) (k : jJ l D R nL X (wC a cI cZ σ) (pc + 3) L (.ref (a 8) :: st)) : jJ l D R nL X (wC a cI cZ σ) pc L (.ref (a 1) :: st) :=
  jq_get hF (fun w h => List.mem_cons_of_mem _ (inP w h)) 1 rfl rfl 4 (by decide) (List.mem_cons_of_mem _ mF_P_18) rfl hd k
theorem Cg_T_130 (hF : jF D R nL X cc rT (cw :: jG) (jTys cI cZ) ret) (hd : decode cc pc = .ok (.getfield 130, 3)) (k : jJ l D R nL X (wC a cI cZ σ) (pc + 3) L (.ref (a 8) :: st)) : jJ l D R nL X (wC a cI cZ σ) pc L (.ref (a 1) :: st) :=
  jq_get hF (fun w h => List.mem_cons_of_mem _ (inP w h)) 1 rfl rfl 4 (by decide) (List.mem_cons_of_mem _ mF_T_130) rfl hd k
theorem Cg_P_21 (hF : jF D R nL X cc rP (cw :: jG) (jTys cI cZ) ret) (hd : decode cc pc = .ok (.getfield 21, 3)) (k : jJ l D R nL X (wC a cI cZ σ) (pc + 3) L (.ref (a 9) :: st)) : jJ l D R nL X (wC a cI cZ σ) pc L (.ref (a 1) :: st) :=
  jq_get hF (fun w h => List.mem_cons_of_mem _ (inP w h)) 1 rfl rfl 5 (by decide) (List.mem_cons_of_mem _ mF_P_21) rfl hd k
theorem Cg_N_112 (hF : jF D R nL X cc rN (cw :: jG) (jTys cI cZ) ret) (hd : decode cc pc = .ok (.getfield 112, 3)) (k : jJ l D R nL X (wC a cI cZ σ) (pc + 3) L (.ref (a 9) :: st)) : jJ l D R nL X (wC a cI cZ σ) pc L (.ref (a 1) :: st) :=
  jq_get hF (fun w h => List.mem_cons_of_mem _ (inP w h)) 1 rfl rfl 5 (by decide) (List.mem_cons_of_mem _ mF_N_112) rfl hd k
theorem Cg_P_56 (hF : jF D R nL X cc rP (cw :: jG) (jTys cI cZ) ret) (hd : decode cc pc = .ok (.getfield 56, 3)) (k : jJ l D R nL X (wC a cI cZ σ) (pc + 3) L (.int (σ 1 2) :: st)) : jJ l D R nL X (wC a cI cZ σ) pc L (.ref (a 1) :: st) :=
  jq_get hF (fun w h => List.mem_cons_of_mem _ (inP w h)) 1 rfl rfl 6 (by decide) (List.mem_cons_of_mem _ mF_P_56) rfl hd k
theorem Cp_P_56 (hF : jF D R nL X cc rP (cw :: jG) (jTys cI cZ) ret) {x : Int32} (hd : decode cc pc = .ok (.putfield 56, 3)) (k : jJ l D R nL X (wC a cI cZ (sU σ 1 2 x)) (pc + 3) L st) : jJ l D R nL X (wC a cI cZ σ) pc L (.int x :: .ref (a 1) :: st) :=
  jq_put hF _ (fun w h => List.mem_cons_of_mem _ (inP w h)) tyP tkP nmP 1 rfl rfl 6 (by decide) (List.mem_cons_of_mem _ mF_P_56) rfl rfl rfl rfl (Nat.le_of_ble_eq_true rfl) rfl hd k
theorem Cg_N_83 (hF : jF D R nL X cc rN (cw :: jG) (jTys cI cZ) ret) (hd : decode cc pc = .ok (.getfield 83, 3)) (k : jJ l D R nL X (wC a cI cZ σ) (pc + 3) L (.int (σ 1 2) :: st)) : jJ l D R nL X (wC a cI cZ σ) pc L (.ref (a 1) :: st) :=
  jq_get hF (fun w h => List.mem_cons_of_mem _ (inP w h)) 1 rfl rfl 6 (by decide) (List.mem_cons_of_mem _ mF_N_83) rfl hd k
theorem Cp_N_83 (hF : jF D R nL X cc rN (cw :: jG) (jTys cI cZ) ret) {x : Int32} (hd : decode cc pc = .ok (.putfield 83, 3)) (k : jJ l D R nL X (wC a cI cZ (sU σ 1 2 x)) (pc + 3) L st) : jJ l D R nL X (wC a cI cZ σ) pc L (.int x :: .ref (a 1) :: st) :=
  jq_put hF _ (fun w h => List.mem_cons_of_mem _ (inP w h)) tyP tkP nmP 1 rfl rfl 6 (by decide) (List.mem_cons_of_mem _ mF_N_83) rfl rfl rfl rfl (Nat.le_of_ble_eq_true rfl) rfl hd k
theorem Cg_P_25 (hF : jF D R nL X cc rP (cw :: jG) (jTys cI cZ) ret) (hd : decode cc pc = .ok (.getfield 25, 3)) (k : jJ l D R nL X (wC a cI cZ σ) (pc + 3) L (.ref (a 10) :: st)) : jJ l D R nL X (wC a cI cZ σ) pc L (.ref (a 1) :: st) :=
  jq_get hF (fun w h => List.mem_cons_of_mem _ (inP w h)) 1 rfl rfl 7 (by decide) (List.mem_cons_of_mem _ mF_P_25) rfl hd k
theorem Cg_K_38 (hF : jF D R nL X cc rK (cw :: jG) (jTys cI cZ) ret) (hd : decode cc pc = .ok (.getfield 38, 3)) (k : jJ l D R nL X (wC a cI cZ σ) (pc + 3) L (.ref (a 10) :: st)) : jJ l D R nL X (wC a cI cZ σ) pc L (.ref (a 1) :: st) :=
  jq_get hF (fun w h => List.mem_cons_of_mem _ (inP w h)) 1 rfl rfl 7 (by decide) (List.mem_cons_of_mem _ mF_K_38) rfl hd k
theorem Cg_P_28 (hF : jF D R nL X cc rP (cw :: jG) (jTys cI cZ) ret) (hd : decode cc pc = .ok (.getfield 28, 3)) (k : jJ l D R nL X (wC a cI cZ σ) (pc + 3) L (.ref (a 11) :: st)) : jJ l D R nL X (wC a cI cZ σ) pc L (.ref (a 1) :: st) :=
  jq_get hF (fun w h => List.mem_cons_of_mem _ (inP w h)) 1 rfl rfl 8 (by decide) (List.mem_cons_of_mem _ mF_P_28) rfl hd k
theorem Cg_N_177 (hF : jF D R nL X cc rN (cw :: jG) (jTys cI cZ) ret) (hd : decode cc pc = .ok (.getfield 177, 3)) (k : jJ l D R nL X (wC a cI cZ σ) (pc + 3) L (.ref (a 11) :: st)) : jJ l D R nL X (wC a cI cZ σ) pc L (.ref (a 1) :: st) :=
  jq_get hF (fun w h => List.mem_cons_of_mem _ (inP w h)) 1 rfl rfl 8 (by decide) (List.mem_cons_of_mem _ mF_N_177) rfl hd k
theorem Cg_P_31 (hF : jF D R nL X cc rP (cw :: jG) (jTys cI cZ) ret) (hd : decode cc pc = .ok (.getfield 31, 3)) (k : jJ l D R nL X (wC a cI cZ σ) (pc + 3) L (.int (σ 1 3) :: st)) : jJ l D R nL X (wC a cI cZ σ) pc L (.ref (a 1) :: st) :=
  jq_get hF (fun w h => List.mem_cons_of_mem _ (inP w h)) 1 rfl rfl 9 (by decide) (List.mem_cons_of_mem _ mF_P_31) rfl hd k
theorem Cp_P_31 (hF : jF D R nL X cc rP (cw :: jG) (jTys cI cZ) ret) {x : Int32} (hd : decode cc pc = .ok (.putfield 31, 3)) (k : jJ l D R nL X (wC a cI cZ (sU σ 1 3 x)) (pc + 3) L st) : jJ l D R nL X (wC a cI cZ σ) pc L (.int x :: .ref (a 1) :: st) :=
  jq_put hF _ (fun w h => List.mem_cons_of_mem _ (inP w h)) tyP tkP nmP 1 rfl rfl 9 (by decide) (List.mem_cons_of_mem _ mF_P_31) rfl rfl rfl rfl (Nat.le_of_ble_eq_true rfl) rfl hd k
theorem Cg_K_47 (hF : jF D R nL X cc rK (cw :: jG) (jTys cI cZ) ret) (hd : decode cc pc = .ok (.getfield 47, 3)) (k : jJ l D R nL X (wC a cI cZ σ) (pc + 3) L (.int (σ 1 3) :: st)) : jJ l D R nL X (wC a cI cZ σ) pc L (.ref (a 1) :: st) :=
  jq_get hF (fun w h => List.mem_cons_of_mem _ (inP w h)) 1 rfl rfl 9 (by decide) (List.mem_cons_of_mem _ mF_K_47) rfl hd k
theorem Cp_K_47 (hF : jF D R nL X cc rK (cw :: jG) (jTys cI cZ) ret) {x : Int32} (hd : decode cc pc = .ok (.putfield 47, 3)) (k : jJ l D R nL X (wC a cI cZ (sU σ 1 3 x)) (pc + 3) L st) : jJ l D R nL X (wC a cI cZ σ) pc L (.int x :: .ref (a 1) :: st) :=
  jq_put hF _ (fun w h => List.mem_cons_of_mem _ (inP w h)) tyP tkP nmP 1 rfl rfl 9 (by decide) (List.mem_cons_of_mem _ mF_K_47) rfl rfl rfl rfl (Nat.le_of_ble_eq_true rfl) rfl hd k
theorem Cg_P_35 (hF : jF D R nL X cc rP (cw :: jG) (jTys cI cZ) ret) (hd : decode cc pc = .ok (.getfield 35, 3)) (k : jJ l D R nL X (wC a cI cZ σ) (pc + 3) L (.ref (a 12) :: st)) : jJ l D R nL X (wC a cI cZ σ) pc L (.ref (a 1) :: st) :=
  jq_get hF (fun w h => List.mem_cons_of_mem _ (inP w h)) 1 rfl rfl 10 (by decide) (List.mem_cons_of_mem _ mF_P_35) rfl hd k
theorem Cg_T_127 (hF : jF D R nL X cc rT (cw :: jG) (jTys cI cZ) ret) (hd : decode cc pc = .ok (.getfield 127, 3)) (k : jJ l D R nL X (wC a cI cZ σ) (pc + 3) L (.ref (a 12) :: st)) : jJ l D R nL X (wC a cI cZ σ) pc L (.ref (a 1) :: st) :=
  jq_get hF (fun w h => List.mem_cons_of_mem _ (inP w h)) 1 rfl rfl 10 (by decide) (List.mem_cons_of_mem _ mF_T_127) rfl hd k
theorem Cg_P_38 (hF : jF D R nL X cc rP (cw :: jG) (jTys cI cZ) ret) (hd : decode cc pc = .ok (.getfield 38, 3)) (k : jJ l D R nL X (wC a cI cZ σ) (pc + 3) L (.ref (a 13) :: st)) : jJ l D R nL X (wC a cI cZ σ) pc L (.ref (a 1) :: st) :=
  jq_get hF (fun w h => List.mem_cons_of_mem _ (inP w h)) 1 rfl rfl 11 (by decide) (List.mem_cons_of_mem _ mF_P_38) rfl hd k
theorem Cg_K_109 (hF : jF D R nL X cc rK (cw :: jG) (jTys cI cZ) ret) (hd : decode cc pc = .ok (.getfield 109, 3)) (k : jJ l D R nL X (wC a cI cZ σ) (pc + 3) L (.ref (a 13) :: st)) : jJ l D R nL X (wC a cI cZ σ) pc L (.ref (a 1) :: st) :=
  jq_get hF (fun w h => List.mem_cons_of_mem _ (inP w h)) 1 rfl rfl 11 (by decide) (List.mem_cons_of_mem _ mF_K_109) rfl hd k
theorem Cg_N_123 (hF : jF D R nL X cc rN (cw :: jG) (jTys cI cZ) ret) (hd : decode cc pc = .ok (.getfield 123, 3)) (k : jJ l D R nL X (wC a cI cZ σ) (pc + 3) L (.ref (a 13) :: st)) : jJ l D R nL X (wC a cI cZ σ) pc L (.ref (a 1) :: st) :=
  jq_get hF (fun w h => List.mem_cons_of_mem _ (inP w h)) 1 rfl rfl 11 (by decide) (List.mem_cons_of_mem _ mF_N_123) rfl hd k
theorem Cg_T_152 (hF : jF D R nL X cc rT (cw :: jG) (jTys cI cZ) ret) (hd : decode cc pc = .ok (.getfield 152, 3)) (k : jJ l D R nL X (wC a cI cZ σ) (pc + 3) L (.ref (a 13) :: st)) : jJ l D R nL X (wC a cI cZ σ) pc L (.ref (a 1) :: st) :=
  jq_get hF (fun w h => List.mem_cons_of_mem _ (inP w h)) 1 rfl rfl 11 (by decide) (List.mem_cons_of_mem _ mF_T_152) rfl hd k
theorem Cg_P_41 (hF : jF D R nL X cc rP (cw :: jG) (jTys cI cZ) ret) (hd : decode cc pc = .ok (.getfield 41, 3)) (k : jJ l D R nL X (wC a cI cZ σ) (pc + 3) L (.ref (a 14) :: st)) : jJ l D R nL X (wC a cI cZ σ) pc L (.ref (a 1) :: st) :=
  jq_get hF (fun w h => List.mem_cons_of_mem _ (inP w h)) 1 rfl rfl 12 (by decide) (List.mem_cons_of_mem _ mF_P_41) rfl hd k
theorem Cg_K_106 (hF : jF D R nL X cc rK (cw :: jG) (jTys cI cZ) ret) (hd : decode cc pc = .ok (.getfield 106, 3)) (k : jJ l D R nL X (wC a cI cZ σ) (pc + 3) L (.ref (a 14) :: st)) : jJ l D R nL X (wC a cI cZ σ) pc L (.ref (a 1) :: st) :=
  jq_get hF (fun w h => List.mem_cons_of_mem _ (inP w h)) 1 rfl rfl 12 (by decide) (List.mem_cons_of_mem _ mF_K_106) rfl hd k
theorem Cg_W_9 (hF : jF D R nL X cc rW (cw :: jG) (jTys cI cZ) ret) (hd : decode cc pc = .ok (.getfield 9, 3)) (k : jJ l D R nL X (wC a cI cZ σ) (pc + 3) L (.ref (a 15) :: st)) : jJ l D R nL X (wC a cI cZ σ) pc L (.ref (a 2) :: st) :=
  jq_get hF (fun w h => List.mem_cons_of_mem _ (inW w h)) 2 rfl rfl 0 (by decide) (List.mem_cons_of_mem _ mF_W_9) rfl hd k
theorem Cg_W_15 (hF : jF D R nL X cc rW (cw :: jG) (jTys cI cZ) ret) (hd : decode cc pc = .ok (.getfield 15, 3)) (k : jJ l D R nL X (wC a cI cZ σ) (pc + 3) L (.ref (a 16) :: st)) : jJ l D R nL X (wC a cI cZ σ) pc L (.ref (a 2) :: st) :=
  jq_get hF (fun w h => List.mem_cons_of_mem _ (inW w h)) 2 rfl rfl 1 (by decide) (List.mem_cons_of_mem _ mF_W_15) rfl hd k
theorem Cg_W_18 (hF : jF D R nL X cc rW (cw :: jG) (jTys cI cZ) ret) (hd : decode cc pc = .ok (.getfield 18, 3)) (k : jJ l D R nL X (wC a cI cZ σ) (pc + 3) L (.ref (a 17) :: st)) : jJ l D R nL X (wC a cI cZ σ) pc L (.ref (a 2) :: st) :=
  jq_get hF (fun w h => List.mem_cons_of_mem _ (inW w h)) 2 rfl rfl 2 (by decide) (List.mem_cons_of_mem _ mF_W_18) rfl hd k
theorem Cg_T_52 (hF : jF D R nL X cc rT (cw :: jG) (jTys cI cZ) ret) (hd : decode cc pc = .ok (.getfield 52, 3)) (k : jJ l D R nL X (wC a cI cZ σ) (pc + 3) L (.ref (a 1) :: st)) : jJ l D R nL X (wC a cI cZ σ) pc L (.ref (a 3) :: st) :=
  jq_get hF (fun w h => List.mem_cons_of_mem _ (inT w h)) 3 rfl rfl 0 (by decide) (List.mem_cons_of_mem _ mF_T_52) rfl hd k
theorem Cg_T_56 (hF : jF D R nL X cc rT (cw :: jG) (jTys cI cZ) ret) (hd : decode cc pc = .ok (.getfield 56, 3)) (k : jJ l D R nL X (wC a cI cZ σ) (pc + 3) L (.int (σ 3 0) :: st)) : jJ l D R nL X (wC a cI cZ σ) pc L (.ref (a 3) :: st) :=
  jq_get hF (fun w h => List.mem_cons_of_mem _ (inT w h)) 3 rfl rfl 1 (by decide) (List.mem_cons_of_mem _ mF_T_56) rfl hd k
theorem Cg_T_60 (hF : jF D R nL X cc rT (cw :: jG) (jTys cI cZ) ret) (hd : decode cc pc = .ok (.getfield 60, 3)) (k : jJ l D R nL X (wC a cI cZ σ) (pc + 3) L (.int (σ 3 1) :: st)) : jJ l D R nL X (wC a cI cZ σ) pc L (.ref (a 3) :: st) :=
  jq_get hF (fun w h => List.mem_cons_of_mem _ (inT w h)) 3 rfl rfl 2 (by decide) (List.mem_cons_of_mem _ mF_T_60) rfl hd k
theorem Cg_N_189 (hF : jF D R nL X cc rN (cw :: jG) (jTys cI cZ) ret) (hd : decode cc pc = .ok (.getfield 189, 3)) (k : jJ l D R nL X (wC a cI cZ σ) (pc + 3) L (.int (σ 3 1) :: st)) : jJ l D R nL X (wC a cI cZ σ) pc L (.ref (a 3) :: st) :=
  jq_get hF (fun w h => List.mem_cons_of_mem _ (inT w h)) 3 rfl rfl 2 (by decide) (List.mem_cons_of_mem _ mF_N_189) rfl hd k
theorem Cg_T_69 (hF : jF D R nL X cc rT (cw :: jG) (jTys cI cZ) ret) (hd : decode cc pc = .ok (.getfield 69, 3)) (k : jJ l D R nL X (wC a cI cZ σ) (pc + 3) L (.int (σ 3 2) :: st)) : jJ l D R nL X (wC a cI cZ σ) pc L (.ref (a 3) :: st) :=
  jq_get hF (fun w h => List.mem_cons_of_mem _ (inT w h)) 3 rfl rfl 3 (by decide) (List.mem_cons_of_mem _ mF_T_69) rfl hd k
theorem Cp_T_69 (hF : jF D R nL X cc rT (cw :: jG) (jTys cI cZ) ret) {x : Int32} (hd : decode cc pc = .ok (.putfield 69, 3)) (k : jJ l D R nL X (wC a cI cZ (sU σ 3 2 x)) (pc + 3) L st) : jJ l D R nL X (wC a cI cZ σ) pc L (.int x :: .ref (a 3) :: st) :=
  jq_put hF _ (fun w h => List.mem_cons_of_mem _ (inT w h)) tyT tkT nmT 3 rfl rfl 3 (by decide) (List.mem_cons_of_mem _ mF_T_69) rfl rfl rfl rfl (Nat.le_of_ble_eq_true rfl) rfl hd k
theorem Cg_K_83 (hF : jF D R nL X cc rK (cw :: jG) (jTys cI cZ) ret) (hd : decode cc pc = .ok (.getfield 83, 3)) (k : jJ l D R nL X (wC a cI cZ σ) (pc + 3) L (.int (σ 3 2) :: st)) : jJ l D R nL X (wC a cI cZ σ) pc L (.ref (a 3) :: st) :=
  jq_get hF (fun w h => List.mem_cons_of_mem _ (inT w h)) 3 rfl rfl 3 (by decide) (List.mem_cons_of_mem _ mF_K_83) rfl hd k
theorem Cp_K_83 (hF : jF D R nL X cc rK (cw :: jG) (jTys cI cZ) ret) {x : Int32} (hd : decode cc pc = .ok (.putfield 83, 3)) (k : jJ l D R nL X (wC a cI cZ (sU σ 3 2 x)) (pc + 3) L st) : jJ l D R nL X (wC a cI cZ σ) pc L (.int x :: .ref (a 3) :: st) :=
  jq_put hF _ (fun w h => List.mem_cons_of_mem _ (inT w h)) tyT tkT nmT 3 rfl rfl 3 (by decide) (List.mem_cons_of_mem _ mF_K_83) rfl rfl rfl rfl (Nat.le_of_ble_eq_true rfl) rfl hd k
theorem Cg_N_132 (hF : jF D R nL X cc rN (cw :: jG) (jTys cI cZ) ret) (hd : decode cc pc = .ok (.getfield 132, 3)) (k : jJ l D R nL X (wC a cI cZ σ) (pc + 3) L (.int (σ 3 2) :: st)) : jJ l D R nL X (wC a cI cZ σ) pc L (.ref (a 3) :: st) :=
  jq_get hF (fun w h => List.mem_cons_of_mem _ (inT w h)) 3 rfl rfl 3 (by decide) (List.mem_cons_of_mem _ mF_N_132) rfl hd k
theorem Cp_N_132 (hF : jF D R nL X cc rN (cw :: jG) (jTys cI cZ) ret) {x : Int32} (hd : decode cc pc = .ok (.putfield 132, 3)) (k : jJ l D R nL X (wC a cI cZ (sU σ 3 2 x)) (pc + 3) L st) : jJ l D R nL X (wC a cI cZ σ) pc L (.int x :: .ref (a 3) :: st) :=
  jq_put hF _ (fun w h => List.mem_cons_of_mem _ (inT w h)) tyT tkT nmT 3 rfl rfl 3 (by decide) (List.mem_cons_of_mem _ mF_N_132) rfl rfl rfl rfl (Nat.le_of_ble_eq_true rfl) rfl hd k
theorem Cg_T_11 (hF : jF D R nL X cc rT (cw :: jG) (jTys cI cZ) ret) (hd : decode cc pc = .ok (.getfield 11, 3)) (k : jJ l D R nL X (wC a cI cZ σ) (pc + 3) L (.ref (a 18) :: st)) : jJ l D R nL X (wC a cI cZ σ) pc L (.ref (a 3) :: st) :=
  jq_get hF (fun w h => List.mem_cons_of_mem _ (inT w h)) 3 rfl rfl 4 (by decide) (List.mem_cons_of_mem _ mF_T_11) rfl hd k
theorem Cg_N_156 (hF : jF D R nL X cc rN (cw :: jG) (jTys cI cZ) ret) (hd : decode cc pc = .ok (.getfield 156, 3)) (k : jJ l D R nL X (wC a cI cZ σ) (pc + 3) L (.ref (a 18) :: st)) : jJ l D R nL X (wC a cI cZ σ) pc L (.ref (a 3) :: st) :=
  jq_get hF (fun w h => List.mem_cons_of_mem _ (inT w h)) 3 rfl rfl 4 (by decide) (List.mem_cons_of_mem _ mF_N_156) rfl hd k
theorem Cg_T_15 (hF : jF D R nL X cc rT (cw :: jG) (jTys cI cZ) ret) (hd : decode cc pc = .ok (.getfield 15, 3)) (k : jJ l D R nL X (wC a cI cZ σ) (pc + 3) L (.ref (a 19) :: st)) : jJ l D R nL X (wC a cI cZ σ) pc L (.ref (a 3) :: st) :=
  jq_get hF (fun w h => List.mem_cons_of_mem _ (inT w h)) 3 rfl rfl 5 (by decide) (List.mem_cons_of_mem _ mF_T_15) rfl hd k
theorem Cg_N_153 (hF : jF D R nL X cc rN (cw :: jG) (jTys cI cZ) ret) (hd : decode cc pc = .ok (.getfield 153, 3)) (k : jJ l D R nL X (wC a cI cZ σ) (pc + 3) L (.ref (a 19) :: st)) : jJ l D R nL X (wC a cI cZ σ) pc L (.ref (a 3) :: st) :=
  jq_get hF (fun w h => List.mem_cons_of_mem _ (inT w h)) 3 rfl rfl 5 (by decide) (List.mem_cons_of_mem _ mF_N_153) rfl hd k
theorem Cg_T_19 (hF : jF D R nL X cc rT (cw :: jG) (jTys cI cZ) ret) (hd : decode cc pc = .ok (.getfield 19, 3)) (k : jJ l D R nL X (wC a cI cZ σ) (pc + 3) L (.ref (a 20) :: st)) : jJ l D R nL X (wC a cI cZ σ) pc L (.ref (a 3) :: st) :=
  jq_get hF (fun w h => List.mem_cons_of_mem _ (inT w h)) 3 rfl rfl 6 (by decide) (List.mem_cons_of_mem _ mF_T_19) rfl hd k
theorem Cg_T_22 (hF : jF D R nL X cc rT (cw :: jG) (jTys cI cZ) ret) (hd : decode cc pc = .ok (.getfield 22, 3)) (k : jJ l D R nL X (wC a cI cZ σ) (pc + 3) L (.ref (a 21) :: st)) : jJ l D R nL X (wC a cI cZ σ) pc L (.ref (a 3) :: st) :=
  jq_get hF (fun w h => List.mem_cons_of_mem _ (inT w h)) 3 rfl rfl 7 (by decide) (List.mem_cons_of_mem _ mF_T_22) rfl hd k
theorem Cg_T_25 (hF : jF D R nL X cc rT (cw :: jG) (jTys cI cZ) ret) (hd : decode cc pc = .ok (.getfield 25, 3)) (k : jJ l D R nL X (wC a cI cZ σ) (pc + 3) L (.ref (a 22) :: st)) : jJ l D R nL X (wC a cI cZ σ) pc L (.ref (a 3) :: st) :=
  jq_get hF (fun w h => List.mem_cons_of_mem _ (inT w h)) 3 rfl rfl 8 (by decide) (List.mem_cons_of_mem _ mF_T_25) rfl hd k
theorem Cg_N_147 (hF : jF D R nL X cc rN (cw :: jG) (jTys cI cZ) ret) (hd : decode cc pc = .ok (.getfield 147, 3)) (k : jJ l D R nL X (wC a cI cZ σ) (pc + 3) L (.ref (a 22) :: st)) : jJ l D R nL X (wC a cI cZ σ) pc L (.ref (a 3) :: st) :=
  jq_get hF (fun w h => List.mem_cons_of_mem _ (inT w h)) 3 rfl rfl 8 (by decide) (List.mem_cons_of_mem _ mF_N_147) rfl hd k
theorem Cg_T_28 (hF : jF D R nL X cc rT (cw :: jG) (jTys cI cZ) ret) (hd : decode cc pc = .ok (.getfield 28, 3)) (k : jJ l D R nL X (wC a cI cZ σ) (pc + 3) L (.ref (a 23) :: st)) : jJ l D R nL X (wC a cI cZ σ) pc L (.ref (a 3) :: st) :=
  jq_get hF (fun w h => List.mem_cons_of_mem _ (inT w h)) 3 rfl rfl 9 (by decide) (List.mem_cons_of_mem _ mF_T_28) rfl hd k
theorem Cg_N_150 (hF : jF D R nL X cc rN (cw :: jG) (jTys cI cZ) ret) (hd : decode cc pc = .ok (.getfield 150, 3)) (k : jJ l D R nL X (wC a cI cZ σ) (pc + 3) L (.ref (a 23) :: st)) : jJ l D R nL X (wC a cI cZ σ) pc L (.ref (a 3) :: st) :=
  jq_get hF (fun w h => List.mem_cons_of_mem _ (inT w h)) 3 rfl rfl 9 (by decide) (List.mem_cons_of_mem _ mF_N_150) rfl hd k
theorem Cg_T_31 (hF : jF D R nL X cc rT (cw :: jG) (jTys cI cZ) ret) (hd : decode cc pc = .ok (.getfield 31, 3)) (k : jJ l D R nL X (wC a cI cZ σ) (pc + 3) L (.ref (a 24) :: st)) : jJ l D R nL X (wC a cI cZ σ) pc L (.ref (a 3) :: st) :=
  jq_get hF (fun w h => List.mem_cons_of_mem _ (inT w h)) 3 rfl rfl 10 (by decide) (List.mem_cons_of_mem _ mF_T_31) rfl hd k
theorem Cg_T_34 (hF : jF D R nL X cc rT (cw :: jG) (jTys cI cZ) ret) (hd : decode cc pc = .ok (.getfield 34, 3)) (k : jJ l D R nL X (wC a cI cZ σ) (pc + 3) L (.ref (a 25) :: st)) : jJ l D R nL X (wC a cI cZ σ) pc L (.ref (a 3) :: st) :=
  jq_get hF (fun w h => List.mem_cons_of_mem _ (inT w h)) 3 rfl rfl 11 (by decide) (List.mem_cons_of_mem _ mF_T_34) rfl hd k
theorem Cg_N_135 (hF : jF D R nL X cc rN (cw :: jG) (jTys cI cZ) ret) (hd : decode cc pc = .ok (.getfield 135, 3)) (k : jJ l D R nL X (wC a cI cZ σ) (pc + 3) L (.ref (a 25) :: st)) : jJ l D R nL X (wC a cI cZ σ) pc L (.ref (a 3) :: st) :=
  jq_get hF (fun w h => List.mem_cons_of_mem _ (inT w h)) 3 rfl rfl 11 (by decide) (List.mem_cons_of_mem _ mF_N_135) rfl hd k
theorem Cg_T_37 (hF : jF D R nL X cc rT (cw :: jG) (jTys cI cZ) ret) (hd : decode cc pc = .ok (.getfield 37, 3)) (k : jJ l D R nL X (wC a cI cZ σ) (pc + 3) L (.ref (a 26) :: st)) : jJ l D R nL X (wC a cI cZ σ) pc L (.ref (a 3) :: st) :=
  jq_get hF (fun w h => List.mem_cons_of_mem _ (inT w h)) 3 rfl rfl 12 (by decide) (List.mem_cons_of_mem _ mF_T_37) rfl hd k
theorem Cg_T_40 (hF : jF D R nL X cc rT (cw :: jG) (jTys cI cZ) ret) (hd : decode cc pc = .ok (.getfield 40, 3)) (k : jJ l D R nL X (wC a cI cZ σ) (pc + 3) L (.ref (a 27) :: st)) : jJ l D R nL X (wC a cI cZ σ) pc L (.ref (a 3) :: st) :=
  jq_get hF (fun w h => List.mem_cons_of_mem _ (inT w h)) 3 rfl rfl 13 (by decide) (List.mem_cons_of_mem _ mF_T_40) rfl hd k
theorem Cg_K_78 (hF : jF D R nL X cc rK (cw :: jG) (jTys cI cZ) ret) (hd : decode cc pc = .ok (.getfield 78, 3)) (k : jJ l D R nL X (wC a cI cZ σ) (pc + 3) L (.ref (a 27) :: st)) : jJ l D R nL X (wC a cI cZ σ) pc L (.ref (a 3) :: st) :=
  jq_get hF (fun w h => List.mem_cons_of_mem _ (inT w h)) 3 rfl rfl 13 (by decide) (List.mem_cons_of_mem _ mF_K_78) rfl hd k
theorem Cg_N_138 (hF : jF D R nL X cc rN (cw :: jG) (jTys cI cZ) ret) (hd : decode cc pc = .ok (.getfield 138, 3)) (k : jJ l D R nL X (wC a cI cZ σ) (pc + 3) L (.ref (a 27) :: st)) : jJ l D R nL X (wC a cI cZ σ) pc L (.ref (a 3) :: st) :=
  jq_get hF (fun w h => List.mem_cons_of_mem _ (inT w h)) 3 rfl rfl 13 (by decide) (List.mem_cons_of_mem _ mF_N_138) rfl hd k
theorem Cg_T_43 (hF : jF D R nL X cc rT (cw :: jG) (jTys cI cZ) ret) (hd : decode cc pc = .ok (.getfield 43, 3)) (k : jJ l D R nL X (wC a cI cZ σ) (pc + 3) L (.ref (a 28) :: st)) : jJ l D R nL X (wC a cI cZ σ) pc L (.ref (a 3) :: st) :=
  jq_get hF (fun w h => List.mem_cons_of_mem _ (inT w h)) 3 rfl rfl 14 (by decide) (List.mem_cons_of_mem _ mF_T_43) rfl hd k
theorem Cg_T_46 (hF : jF D R nL X cc rT (cw :: jG) (jTys cI cZ) ret) (hd : decode cc pc = .ok (.getfield 46, 3)) (k : jJ l D R nL X (wC a cI cZ σ) (pc + 3) L (.ref (a 29) :: st)) : jJ l D R nL X (wC a cI cZ σ) pc L (.ref (a 3) :: st) :=
  jq_get hF (fun w h => List.mem_cons_of_mem _ (inT w h)) 3 rfl rfl 15 (by decide) (List.mem_cons_of_mem _ mF_T_46) rfl hd k
theorem Cg_T_49 (hF : jF D R nL X cc rT (cw :: jG) (jTys cI cZ) ret) (hd : decode cc pc = .ok (.getfield 49, 3)) (k : jJ l D R nL X (wC a cI cZ σ) (pc + 3) L (.ref (a 30) :: st)) : jJ l D R nL X (wC a cI cZ σ) pc L (.ref (a 3) :: st) :=
  jq_get hF (fun w h => List.mem_cons_of_mem _ (inT w h)) 3 rfl rfl 16 (by decide) (List.mem_cons_of_mem _ mF_T_49) rfl hd k
theorem Cg_B_11 (hF : jF D R nL X cc rB (cw :: jG) (jTys cI cZ) ret) (hd : decode cc pc = .ok (.getfield 11, 3)) (k : jJ l D R nL X (wC a cI cZ σ) (pc + 3) L (.ref (a 31) :: st)) : jJ l D R nL X (wC a cI cZ σ) pc L (.ref (a 4) :: st) :=
  jq_get hF (fun w h => List.mem_cons_of_mem _ (inB w h)) 4 rfl rfl 0 (by decide) (List.mem_cons_of_mem _ mF_B_11) rfl hd k
theorem Cg_B_15 (hF : jF D R nL X cc rB (cw :: jG) (jTys cI cZ) ret) (hd : decode cc pc = .ok (.getfield 15, 3)) (k : jJ l D R nL X (wC a cI cZ σ) (pc + 3) L (.ref (a 32) :: st)) : jJ l D R nL X (wC a cI cZ σ) pc L (.ref (a 4) :: st) :=
  jq_get hF (fun w h => List.mem_cons_of_mem _ (inB w h)) 4 rfl rfl 1 (by decide) (List.mem_cons_of_mem _ mF_B_15) rfl hd k
theorem Cg_K_18 (hF : jF D R nL X cc rK (cw :: jG) (jTys cI cZ) ret) (hd : decode cc pc = .ok (.getfield 18, 3)) (k : jJ l D R nL X (wC a cI cZ σ) (pc + 3) L (.ref (a 1) :: st)) : jJ l D R nL X (wC a cI cZ σ) pc L (.ref (a 5) :: st) :=
  jq_get hF (fun w h => List.mem_cons_of_mem _ (inK w h)) 5 rfl rfl 0 (by decide) (List.mem_cons_of_mem _ mF_K_18) rfl hd k
theorem Cg_K_22 (hF : jF D R nL X cc rK (cw :: jG) (jTys cI cZ) ret) (hd : decode cc pc = .ok (.getfield 22, 3)) (k : jJ l D R nL X (wC a cI cZ σ) (pc + 3) L (.ref (a 2) :: st)) : jJ l D R nL X (wC a cI cZ σ) pc L (.ref (a 5) :: st) :=
  jq_get hF (fun w h => List.mem_cons_of_mem _ (inK w h)) 5 rfl rfl 1 (by decide) (List.mem_cons_of_mem _ mF_K_22) rfl hd k
theorem Cg_K_26 (hF : jF D R nL X cc rK (cw :: jG) (jTys cI cZ) ret) (hd : decode cc pc = .ok (.getfield 26, 3)) (k : jJ l D R nL X (wC a cI cZ σ) (pc + 3) L (.ref (a 3) :: st)) : jJ l D R nL X (wC a cI cZ σ) pc L (.ref (a 5) :: st) :=
  jq_get hF (fun w h => List.mem_cons_of_mem _ (inK w h)) 5 rfl rfl 2 (by decide) (List.mem_cons_of_mem _ mF_K_26) rfl hd k
theorem Cg_K_30 (hF : jF D R nL X cc rK (cw :: jG) (jTys cI cZ) ret) (hd : decode cc pc = .ok (.getfield 30, 3)) (k : jJ l D R nL X (wC a cI cZ σ) (pc + 3) L (.ref (a 4) :: st)) : jJ l D R nL X (wC a cI cZ σ) pc L (.ref (a 5) :: st) :=
  jq_get hF (fun w h => List.mem_cons_of_mem _ (inK w h)) 5 rfl rfl 3 (by decide) (List.mem_cons_of_mem _ mF_K_30) rfl hd k
theorem Cg_K_9 (hF : jF D R nL X cc rK (cw :: jG) (jTys cI cZ) ret) (hd : decode cc pc = .ok (.getfield 9, 3)) (k : jJ l D R nL X (wC a cI cZ σ) (pc + 3) L (.ref (a 33) :: st)) : jJ l D R nL X (wC a cI cZ σ) pc L (.ref (a 5) :: st) :=
  jq_get hF (fun w h => List.mem_cons_of_mem _ (inK w h)) 5 rfl rfl 4 (by decide) (List.mem_cons_of_mem _ mF_K_9) rfl hd k
theorem Cg_K_15 (hF : jF D R nL X cc rK (cw :: jG) (jTys cI cZ) ret) (hd : decode cc pc = .ok (.getfield 15, 3)) (k : jJ l D R nL X (wC a cI cZ σ) (pc + 3) L (.ref (a 34) :: st)) : jJ l D R nL X (wC a cI cZ σ) pc L (.ref (a 5) :: st) :=
  jq_get hF (fun w h => List.mem_cons_of_mem _ (inK w h)) 5 rfl rfl 5 (by decide) (List.mem_cons_of_mem _ mF_K_15) rfl hd k
theorem Cg_K_68 (hF : jF D R nL X cc rK (cw :: jG) (jTys cI cZ) ret) (hd : decode cc pc = .ok (.getfield 68, 3)) (k : jJ l D R nL X (wC a cI cZ σ) (pc + 3) L (.int (σ 5 0) :: st)) : jJ l D R nL X (wC a cI cZ σ) pc L (.ref (a 5) :: st) :=
  jq_get hF (fun w h => List.mem_cons_of_mem _ (inK w h)) 5 rfl rfl 6 (by decide) (List.mem_cons_of_mem _ mF_K_68) rfl hd k
theorem Cp_K_68 (hF : jF D R nL X cc rK (cw :: jG) (jTys cI cZ) ret) {x : Int32} (hd : decode cc pc = .ok (.putfield 68, 3)) (k : jJ l D R nL X (wC a cI cZ (sU σ 5 0 x)) (pc + 3) L st) : jJ l D R nL X (wC a cI cZ σ) pc L (.int x :: .ref (a 5) :: st) :=
  jq_put hF _ (fun w h => List.mem_cons_of_mem _ (inK w h)) tyK tkK nmK 5 rfl rfl 6 (by decide) (List.mem_cons_of_mem _ mF_K_68) rfl rfl rfl rfl (Nat.le_of_ble_eq_true rfl) rfl hd k
theorem Cg_K_56 (hF : jF D R nL X cc rK (cw :: jG) (jTys cI cZ) ret) (hd : decode cc pc = .ok (.getfield 56, 3)) (k : jJ l D R nL X (wC a cI cZ σ) (pc + 3) L (.int (σ 5 1) :: st)) : jJ l D R nL X (wC a cI cZ σ) pc L (.ref (a 5) :: st) :=
  jq_get hF (fun w h => List.mem_cons_of_mem _ (inK w h)) 5 rfl rfl 7 (by decide) (List.mem_cons_of_mem _ mF_K_56) rfl hd k
theorem Cp_K_56 (hF : jF D R nL X cc rK (cw :: jG) (jTys cI cZ) ret) {x : Int32} (hd : decode cc pc = .ok (.putfield 56, 3)) (k : jJ l D R nL X (wC a cI cZ (sU σ 5 1 x)) (pc + 3) L st) : jJ l D R nL X (wC a cI cZ σ) pc L (.int x :: .ref (a 5) :: st) :=
  jq_put hF _ (fun w h => List.mem_cons_of_mem _ (inK w h)) tyK tkK nmK 5 rfl rfl 7 (by decide) (List.mem_cons_of_mem _ mF_K_56) rfl rfl rfl rfl (Nat.le_of_ble_eq_true rfl) rfl hd k
theorem Cg_K_59 (hF : jF D R nL X cc rK (cw :: jG) (jTys cI cZ) ret) (hd : decode cc pc = .ok (.getfield 59, 3)) (k : jJ l D R nL X (wC a cI cZ σ) (pc + 3) L (.int (σ 5 2) :: st)) : jJ l D R nL X (wC a cI cZ σ) pc L (.ref (a 5) :: st) :=
  jq_get hF (fun w h => List.mem_cons_of_mem _ (inK w h)) 5 rfl rfl 8 (by decide) (List.mem_cons_of_mem _ mF_K_59) rfl hd k
theorem Cp_K_59 (hF : jF D R nL X cc rK (cw :: jG) (jTys cI cZ) ret) {x : Int32} (hd : decode cc pc = .ok (.putfield 59, 3)) (k : jJ l D R nL X (wC a cI cZ (sU σ 5 2 x)) (pc + 3) L st) : jJ l D R nL X (wC a cI cZ σ) pc L (.int x :: .ref (a 5) :: st) :=
  jq_put hF _ (fun w h => List.mem_cons_of_mem _ (inK w h)) tyK tkK nmK 5 rfl rfl 8 (by decide) (List.mem_cons_of_mem _ mF_K_59) rfl rfl rfl rfl (Nat.le_of_ble_eq_true rfl) rfl hd k
theorem Cg_K_62 (hF : jF D R nL X cc rK (cw :: jG) (jTys cI cZ) ret) (hd : decode cc pc = .ok (.getfield 62, 3)) (k : jJ l D R nL X (wC a cI cZ σ) (pc + 3) L (.int (σ 5 3) :: st)) : jJ l D R nL X (wC a cI cZ σ) pc L (.ref (a 5) :: st) :=
  jq_get hF (fun w h => List.mem_cons_of_mem _ (inK w h)) 5 rfl rfl 9 (by decide) (List.mem_cons_of_mem _ mF_K_62) rfl hd k
theorem Cp_K_62 (hF : jF D R nL X cc rK (cw :: jG) (jTys cI cZ) ret) {x : Int32} (hd : decode cc pc = .ok (.putfield 62, 3)) (k : jJ l D R nL X (wC a cI cZ (sU σ 5 3 x)) (pc + 3) L st) : jJ l D R nL X (wC a cI cZ σ) pc L (.int x :: .ref (a 5) :: st) :=
  jq_put hF _ (fun w h => List.mem_cons_of_mem _ (inK w h)) tyK tkK nmK 5 rfl rfl 9 (by decide) (List.mem_cons_of_mem _ mF_K_62) rfl rfl rfl rfl (Nat.le_of_ble_eq_true rfl) rfl hd k
theorem Cg_K_65 (hF : jF D R nL X cc rK (cw :: jG) (jTys cI cZ) ret) (hd : decode cc pc = .ok (.getfield 65, 3)) (k : jJ l D R nL X (wC a cI cZ σ) (pc + 3) L (.int (σ 5 4) :: st)) : jJ l D R nL X (wC a cI cZ σ) pc L (.ref (a 5) :: st) :=
  jq_get hF (fun w h => List.mem_cons_of_mem _ (inK w h)) 5 rfl rfl 10 (by decide) (List.mem_cons_of_mem _ mF_K_65) rfl hd k
theorem Cp_K_65 (hF : jF D R nL X cc rK (cw :: jG) (jTys cI cZ) ret) {x : Int32} (hd : decode cc pc = .ok (.putfield 65, 3)) (k : jJ l D R nL X (wC a cI cZ (sU σ 5 4 x)) (pc + 3) L st) : jJ l D R nL X (wC a cI cZ σ) pc L (.int x :: .ref (a 5) :: st) :=
  jq_put hF _ (fun w h => List.mem_cons_of_mem _ (inK w h)) tyK tkK nmK 5 rfl rfl 10 (by decide) (List.mem_cons_of_mem _ mF_K_65) rfl rfl rfl rfl (Nat.le_of_ble_eq_true rfl) rfl hd k
theorem Cg_K_34 (hF : jF D R nL X cc rK (cw :: jG) (jTys cI cZ) ret) (hd : decode cc pc = .ok (.getfield 34, 3)) (k : jJ l D R nL X (wC a cI cZ σ) (pc + 3) L (.int (σ 5 5) :: st)) : jJ l D R nL X (wC a cI cZ σ) pc L (.ref (a 5) :: st) :=
  jq_get hF (fun w h => List.mem_cons_of_mem _ (inK w h)) 5 rfl rfl 11 (by decide) (List.mem_cons_of_mem _ mF_K_34) rfl hd k
theorem Cp_K_34 (hF : jF D R nL X cc rK (cw :: jG) (jTys cI cZ) ret) {x : Int32} (hd : decode cc pc = .ok (.putfield 34, 3)) (k : jJ l D R nL X (wC a cI cZ (sU σ 5 5 x)) (pc + 3) L st) : jJ l D R nL X (wC a cI cZ σ) pc L (.int x :: .ref (a 5) :: st) :=
  jq_put hF _ (fun w h => List.mem_cons_of_mem _ (inK w h)) tyK tkK nmK 5 rfl rfl 11 (by decide) (List.mem_cons_of_mem _ mF_K_34) rfl rfl rfl rfl (Nat.le_of_ble_eq_true rfl) rfl hd k
theorem Cg_N_186 (hF : jF D R nL X cc rN (cw :: jG) (jTys cI cZ) ret) (hd : decode cc pc = .ok (.getfield 186, 3)) (k : jJ l D R nL X (wC a cI cZ σ) (pc + 3) L (.int (σ 5 5) :: st)) : jJ l D R nL X (wC a cI cZ σ) pc L (.ref (a 5) :: st) :=
  jq_get hF (fun w h => List.mem_cons_of_mem _ (inK w h)) 5 rfl rfl 11 (by decide) (List.mem_cons_of_mem _ mF_N_186) rfl hd k
theorem Cp_N_186 (hF : jF D R nL X cc rN (cw :: jG) (jTys cI cZ) ret) {x : Int32} (hd : decode cc pc = .ok (.putfield 186, 3)) (k : jJ l D R nL X (wC a cI cZ (sU σ 5 5 x)) (pc + 3) L st) : jJ l D R nL X (wC a cI cZ σ) pc L (.int x :: .ref (a 5) :: st) :=
  jq_put hF _ (fun w h => List.mem_cons_of_mem _ (inK w h)) tyK tkK nmK 5 rfl rfl 11 (by decide) (List.mem_cons_of_mem _ mF_N_186) rfl rfl rfl rfl (Nat.le_of_ble_eq_true rfl) rfl hd k
theorem Cg_N_13 (hF : jF D R nL X cc rN (cw :: jG) (jTys cI cZ) ret) (hd : decode cc pc = .ok (.getfield 13, 3)) (k : jJ l D R nL X (wC a cI cZ σ) (pc + 3) L (.int (σ 0 0) :: st)) : jJ l D R nL X (wC a cI cZ σ) pc L (.ref (a 0) :: st) :=
  jq_get hF (fun w h => List.mem_cons_of_mem _ (inN w h)) 0 rfl rfl 0 (by decide) (List.mem_cons_of_mem _ mF_N_13) rfl hd k
theorem Cg_N_20 (hF : jF D R nL X cc rN (cw :: jG) (jTys cI cZ) ret) (hd : decode cc pc = .ok (.getfield 20, 3)) (k : jJ l D R nL X (wC a cI cZ σ) (pc + 3) L (.ref (a 1) :: st)) : jJ l D R nL X (wC a cI cZ σ) pc L (.ref (a 0) :: st) :=
  jq_get hF (fun w h => List.mem_cons_of_mem _ (inN w h)) 0 rfl rfl 1 (by decide) (List.mem_cons_of_mem _ mF_N_20) rfl hd k
theorem Cg_N_27 (hF : jF D R nL X cc rN (cw :: jG) (jTys cI cZ) ret) (hd : decode cc pc = .ok (.getfield 27, 3)) (k : jJ l D R nL X (wC a cI cZ σ) (pc + 3) L (.ref (a 2) :: st)) : jJ l D R nL X (wC a cI cZ σ) pc L (.ref (a 0) :: st) :=
  jq_get hF (fun w h => List.mem_cons_of_mem _ (inN w h)) 0 rfl rfl 2 (by decide) (List.mem_cons_of_mem _ mF_N_27) rfl hd k
theorem Cg_N_36 (hF : jF D R nL X cc rN (cw :: jG) (jTys cI cZ) ret) (hd : decode cc pc = .ok (.getfield 36, 3)) (k : jJ l D R nL X (wC a cI cZ σ) (pc + 3) L (.ref (a 3) :: st)) : jJ l D R nL X (wC a cI cZ σ) pc L (.ref (a 0) :: st) :=
  jq_get hF (fun w h => List.mem_cons_of_mem _ (inN w h)) 0 rfl rfl 3 (by decide) (List.mem_cons_of_mem _ mF_N_36) rfl hd k
theorem Cg_N_43 (hF : jF D R nL X cc rN (cw :: jG) (jTys cI cZ) ret) (hd : decode cc pc = .ok (.getfield 43, 3)) (k : jJ l D R nL X (wC a cI cZ σ) (pc + 3) L (.ref (a 4) :: st)) : jJ l D R nL X (wC a cI cZ σ) pc L (.ref (a 0) :: st) :=
  jq_get hF (fun w h => List.mem_cons_of_mem _ (inN w h)) 0 rfl rfl 4 (by decide) (List.mem_cons_of_mem _ mF_N_43) rfl hd k
theorem Cg_N_52 (hF : jF D R nL X cc rN (cw :: jG) (jTys cI cZ) ret) (hd : decode cc pc = .ok (.getfield 52, 3)) (k : jJ l D R nL X (wC a cI cZ σ) (pc + 3) L (.ref (a 5) :: st)) : jJ l D R nL X (wC a cI cZ σ) pc L (.ref (a 0) :: st) :=
  jq_get hF (fun w h => List.mem_cons_of_mem _ (inN w h)) 0 rfl rfl 5 (by decide) (List.mem_cons_of_mem _ mF_N_52) rfl hd k
theorem Cg_N_56 (hF : jF D R nL X cc rN (cw :: jG) (jTys cI cZ) ret) (hd : decode cc pc = .ok (.getfield 56, 3)) (k : jJ l D R nL X (wC a cI cZ σ) (pc + 3) L (.int (σ 0 1) :: st)) : jJ l D R nL X (wC a cI cZ σ) pc L (.ref (a 0) :: st) :=
  jq_get hF (fun w h => List.mem_cons_of_mem _ (inN w h)) 0 rfl rfl 6 (by decide) (List.mem_cons_of_mem _ mF_N_56) rfl hd k
theorem Cp_N_56 (hF : jF D R nL X cc rN (cw :: jG) (jTys cI cZ) ret) {x : Int32} (hd : decode cc pc = .ok (.putfield 56, 3)) (k : jJ l D R nL X (wC a cI cZ (sU σ 0 1 x)) (pc + 3) L st) : jJ l D R nL X (wC a cI cZ σ) pc L (.int x :: .ref (a 0) :: st) :=
  jq_put hF _ (fun w h => List.mem_cons_of_mem _ (inN w h)) tyN tkN nmN 0 rfl rfl 6 (by decide) (List.mem_cons_of_mem _ mF_N_56) rfl rfl rfl rfl (Nat.le_of_ble_eq_true rfl) rfl hd k
end WC
