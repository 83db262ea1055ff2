def wM (a : Nat → Nat) (cI cZ : ClassId) (τ : jS) : va_W := [(a 0, .inr (6, [.int (τ 0 0), .int (τ 0 1), .int (τ 0 2), .int (τ 0 3), .int (τ 0 4), .ref (a 1), .ref (a 2), .ref (a 3), .ref (a 4), .ref (a 5), .ref (a 6), .ref (a 7), .ref (a 8), .ref (a 9), .int (τ 0 5), .ref (a 10), .ref (a 11), .ref (a 12), .ref (a 13), .int (τ 0 6), .ref (a 14), .ref (a 15), .int (τ 0 7), .ref (a 16), .ref (a 17), .ref (a 18), .ref (a 19), .ref (a 20), .ref (a 21), .ref (a 22), .ref (a 23), .ref (a 24), .ref (a 25), .ref (a 26), .ref (a 27), .ref (a 28), .ref (a 29), .int (τ 0 8), .int (τ 0 9), .int (τ 0 10), .int (τ 0 11), .int (τ 0 12)])),
  (a 1, .inl (cI, 6, .inl (τ 1))),
  (a 2, .inl (cI, 6, .inl (τ 2))),
  (a 3, .inl (cZ, 6, .inl (τ 3))),
  (a 4, .inl (cZ, 6, .inl (τ 4))),
  (a 5, .inl (cI, 24, .inl (τ 5))),
  (a 6, .inl (cI, 24, .inl (τ 6))),
  (a 7, .inl (cZ, 24, .inl (τ 7))),
  (a 8, .inl (cI, 24, .inl (τ 8))),
  (a 9, .inl (cI, 24, .inl (τ 9))),
  (a 10, .inl (cI, 10, .inl (τ 10))),
  (a 11, .inl (cI, 10, .inl (τ 11))),
  (a 12, .inl (cI, 10, .inl (τ 12))),
  (a 13, .inl (cZ, 10, .inl (τ 13))),
  (a 14, .inl (cI, 6, .inl (τ 14))),
  (a 15, .inl (cI, 6, .inl (τ 15))),
  (a 16, .inl (cZ, 48, .inl (τ 16))),
  (a 17, .inl (cI, 48, .inl (τ 17))),
  (a 18, .inl (cI, 48, .inl (τ 18))),
  (a 19, .inl (cI, 48, .inl (τ 19))),
  (a 20, .inl (cI, 48, .inl (τ 20))),
  (a 21, .inl (cI, 48, .inl (τ 21))),
  (a 22, .inl (cZ, 48, .inl (τ 22))),
  (a 23, .inl (cZ, 24, .inl (τ 23))),
  (a 24, .inl (cI, 24, .inl (τ 24))),
  (a 25, .inl (cI, 24, .inl (τ 25))),
  (a 26, .inl (cI, 168, .inl (τ 26))),
  (a 27, .inl (cI, 168, .inl (τ 27))),
  (a 28, .inl (cI, 64, .inl (τ 28))),
  (a 29, .inl (cI, 64, .inl (τ 29)))]
section WM
variable {l : Launch} {D : va_G} {R : Room} {nL : Nat} {X : jX} {cc : ByteArray} {own : String} {cw : Cond} {cI cZ : ClassId} {ret : Option FieldType} {a : Nat → Nat} {τ : jS} {pc : Nat} {L : List (Nat × Value)} {st : List Value}
theorem Mw_1 (f : Nat → Int32) : (wM a cI cZ τ).set 1 (a 1, .inl (cI, 6, .inl f)) = wM a cI cZ (sF τ 1 f) := rfl
theorem Ml_1 (hF : jF D R nL X cc own (cw :: jG) (jTys cI cZ) ret) {i : Nat} (hi : i < 6) (hd : decode cc pc = .ok (.iaload, 1)) (k : jJ l D R nL X (wM a cI cZ τ) (pc + 1) L (.int (τ 1 i) :: st)) : jJ l D R nL X (wM a cI cZ τ) pc L (.int (nI i) :: .ref (a 1) :: st) :=
  jq_ialdN hF 1 0 rfl rfl (by decide) hi hd k
theorem ML_1 (hF : jF D R nL X cc own (cw :: jG) (jTys cI cZ) ret) {i : Int32} (hi : vp_in i 6) (hd : decode cc pc = .ok (.iaload, 1)) (k : jJ l D R nL X (wM a cI cZ τ) (pc + 1) L (.int (τ 1 i.toNatClampNeg) :: st)) : jJ l D R nL X (wM a cI cZ τ) pc L (.int i :: .ref (a 1) :: st) :=
  jq_iald hF 1 0 rfl rfl hi hd k
theorem Ms_1 (hF : jF D R nL X cc own (cw :: jG) (jTys cI cZ) ret) {i : Nat} {x : Int32} (hi : i < 6) (hd : decode cc pc = .ok (.iastore, 1)) (k : jJ l D R nL X (wM a cI cZ (sU τ 1 i x)) (pc + 1) L st) : jJ l D R nL X (wM a cI cZ τ) pc L (.int x :: .int (nI i) :: .ref (a 1) :: st) :=
  jq_iastN hF 1 0 _ rfl rfl (by decide) hi rfl hd k
theorem MS_1 (hF : jF D R nL X cc own (cw :: jG) (jTys cI cZ) ret) {i x : Int32} (hi : vp_in i 6) (hd : decode cc pc = .ok (.iastore, 1)) (k : jJ l D R nL X (wM a cI cZ (sU τ 1 i.toNatClampNeg x)) (pc + 1) L st) : jJ l D R nL X (wM a cI cZ τ) pc L (.int x :: .int i :: .ref (a 1) :: st) :=
  jq_iast hF 1 0 _ rfl rfl hi rfl hd k
theorem Mw_2 (f : Nat → Int32) : (wM a cI cZ τ).set 2 (a 2, .inl (cI, 6, .inl f)) = wM a cI cZ (sF τ 2 f) := rfl
theorem Ml_2 (hF : jF D R nL X cc own (cw :: jG) (jTys cI cZ) ret) {i : Nat} (hi : i < 6) (hd : decode cc pc = .ok (.iaload, 1)) (k : jJ l D R nL X (wM a cI cZ τ) (pc + 1) L (.int (τ 2 i) :: st)) : jJ l D R nL X (wM a cI cZ τ) pc L (.int (nI i) :: .ref (a 2) :: st) :=
  jq_ialdN hF 2 0 rfl rfl (by decide) hi hd k
theorem ML_2 (hF : jF D R nL X cc own (cw :: jG) (jTys cI cZ) ret) {i : Int32} (hi : vp_in i 6) (hd : decode cc pc = .ok (.iaload, 1)) (k : jJ l D R nL X (wM a cI cZ τ) (pc + 1) L (.int (τ 2 i.toNatClampNeg) :: st)) : jJ l D R nL X (wM a cI cZ τ) pc L (.int i :: .ref (a 2) :: st) :=
  jq_iald hF 2 0 rfl rfl hi hd k
theorem Ms_2 (hF : jF D R nL X cc own (cw :: jG) (jTys cI cZ) ret) {i : Nat} {x : Int32} (hi : i < 6) (hd : decode cc pc = .ok (.iastore, 1)) (k : jJ l D R nL X (wM a cI cZ (sU τ 2 i x)) (pc + 1) L st) : jJ l D R nL X (wM a cI cZ τ) pc L (.int x :: .int (nI i) :: .ref (a 2) :: st) :=
  jq_iastN hF 2 0 _ rfl rfl (by decide) hi rfl hd k
theorem MS_2 (hF : jF D R nL X cc own (cw :: jG) (jTys cI cZ) ret) {i x : Int32} (hi : vp_in i 6) (hd : decode cc pc = .ok (.iastore, 1)) (k : jJ l D R nL X (wM a cI cZ (sU τ 2 i.toNatClampNeg x)) (pc + 1) L st) : jJ l D R nL X (wM a cI cZ τ) pc L (.int x :: .int i :: .ref (a 2) :: st) :=
  jq_iast hF 2 0 _ rfl rfl hi rfl hd k
theorem Mw_3 (f : Nat → Int32) : (wM a cI cZ τ).set 3 (a 3, .inl (cZ, 6, .inl f)) = wM a cI cZ (sF τ 3 f) := rfl
theorem Ml_3 (hF : jF D R nL X cc own (cw :: jG) (jTys cI cZ) ret) {i : Nat} (hi : i < 6) (hd : decode cc pc = .ok (.baload, 1)) (k : jJ l D R nL X (wM a cI cZ τ) (pc + 1) L (.int (τ 3 i) :: st)) : jJ l D R nL X (wM a cI cZ τ) pc L (.int (nI i) :: .ref (a 3) :: st) :=
  jq_zaldN hF 3 1 rfl rfl (by decide) hi hd k
theorem ML_3 (hF : jF D R nL X cc own (cw :: jG) (jTys cI cZ) ret) {i : Int32} (hi : vp_in i 6) (hd : decode cc pc = .ok (.baload, 1)) (k : jJ l D R nL X (wM a cI cZ τ) (pc + 1) L (.int (τ 3 i.toNatClampNeg) :: st)) : jJ l D R nL X (wM a cI cZ τ) pc L (.int i :: .ref (a 3) :: st) :=
  jq_zald hF 3 1 rfl rfl hi hd k
theorem Ms_3 (hF : jF D R nL X cc own (cw :: jG) (jTys cI cZ) ret) {i : Nat} {x : Int32} (hi : i < 6) (hx : vp_nar .boolean x = x) (hd : decode cc pc = .ok (.bastore, 1)) (k : jJ l D R nL X (wM a cI cZ (sU τ 3 i x)) (pc + 1) L st) : jJ l D R nL X (wM a cI cZ τ) pc L (.int x :: .int (nI i) :: .ref (a 3) :: st) :=
  jq_zastN hF 3 1 _ rfl rfl (by decide) hi (by rw [hx]; rfl) hd k
theorem MS_3 (hF : jF D R nL X cc own (cw :: jG) (jTys cI cZ) ret) {i x : Int32} (hi : vp_in i 6) (hx : vp_nar .boolean x = x) (hd : decode cc pc = .ok (.bastore, 1)) (k : jJ l D R nL X (wM a cI cZ (sU τ 3 i.toNatClampNeg x)) (pc + 1) L st) : jJ l D R nL X (wM a cI cZ τ) pc L (.int x :: .int i :: .ref (a 3) :: st) :=
  jq_zast hF 3 1 _ rfl rfl hi (by rw [hx]; rfl) hd k
theorem Mw_4 (f : Nat → Int32) : (wM a cI cZ τ).set 4 (a 4, .inl (cZ, 6, .inl f)) = wM a cI cZ (sF τ 4 f) := rfl
theorem Ml_4 (hF : jF D R nL X cc own (cw :: jG) (jTys cI cZ) ret) {i : Nat} (hi : i < 6) (hd : decode cc pc = .ok (.baload, 1)) (k : jJ l D R nL X (wM a cI cZ τ) (pc + 1) L (.int (τ 4 i) :: st)) : jJ l D R nL X (wM a cI cZ τ) pc L (.int (nI i) :: .ref (a 4) :: st) :=
  jq_zaldN hF 4 1 rfl rfl (by decide) hi hd k
theorem ML_4 (hF : jF D R nL X cc own (cw :: jG) (jTys cI cZ) ret) {i : Int32} (hi : vp_in i 6) (hd : decode cc pc = .ok (.baload, 1)) (k : jJ l D R nL X (wM a cI cZ τ) (pc + 1) L (.int (τ 4 i.toNatClampNeg) :: st)) : jJ l D R nL X (wM a cI cZ τ) pc L (.int i :: .ref (a 4) :: st) :=
  jq_zald hF 4 1 rfl rfl hi hd k
theorem Ms_4 (hF : jF D R nL X cc own (cw :: jG) (jTys cI cZ) ret) {i : Nat} {x : Int32} (hi : i < 6) (hx : vp_nar .boolean x = x) (hd : decode cc pc = .ok (.bastore, 1)) (k : jJ l D R nL X (wM a cI cZ (sU τ 4 i x)) (pc + 1) L st) : jJ l D R nL X (wM a cI cZ τ) pc L (.int x :: .int (nI i) :: .ref (a 4) :: st) :=
  jq_zastN hF 4 1 _ rfl rfl (by decide) hi (by rw [hx]; rfl) hd k
theorem MS_4 (hF : jF D R nL X cc own (cw :: jG) (jTys cI cZ) ret) {i x : Int32} (hi : vp_in i 6) (hx : vp_nar .boolean x = x) (hd : decode cc pc = .ok (.bastore, 1)) (k : jJ l D R nL X (wM a cI cZ (sU τ 4 i.toNatClampNeg x)) (pc + 1) L st) : jJ l D R nL X (wM a cI cZ τ) pc L (.int x :: .int i :: .ref (a 4) :: st) :=
  jq_zast hF 4 1 _ rfl rfl hi (by rw [hx]; rfl) hd k
theorem Mw_5 (f : Nat → Int32) : (wM a cI cZ τ).set 5 (a 5, .inl (cI, 24, .inl f)) = wM a cI cZ (sF τ 5 f) := rfl
theorem Ml_5 (hF : jF D R nL X cc own (cw :: jG) (jTys cI cZ) ret) {i : Nat} (hi : i < 24) (hd : decode cc pc = .ok (.iaload, 1)) (k : jJ l D R nL X (wM a cI cZ τ) (pc + 1) L (.int (τ 5 i) :: st)) : jJ l D R nL X (wM a cI cZ τ) pc L (.int (nI i) :: .ref (a 5) :: st) :=
  jq_ialdN hF 5 0 rfl rfl (by decide) hi hd k
theorem ML_5 (hF : jF D R nL X cc own (cw :: jG) (jTys cI cZ) ret) {i : Int32} (hi : vp_in i 24) (hd : decode cc pc = .ok (.iaload, 1)) (k : jJ l D R nL X (wM a cI cZ τ) (pc + 1) L (.int (τ 5 i.toNatClampNeg) :: st)) : jJ l D R nL X (wM a cI cZ τ) pc L (.int i :: .ref (a 5) :: st) :=
  jq_iald hF 5 0 rfl rfl hi hd k
theorem Ms_5 (hF : jF D R nL X cc own (cw :: jG) (jTys cI cZ) ret) {i : Nat} {x : Int32} (hi : i < 24) (hd : decode cc pc = .ok (.iastore, 1)) (k : jJ l D R nL X (wM a cI cZ (sU τ 5 i x)) (pc + 1) L st) : jJ l D R nL X (wM a cI cZ τ) pc L (.int x :: .int (nI i) :: .ref (a 5) :: st) :=
  jq_iastN hF 5 0 _ rfl rfl (by decide) hi rfl hd k
theorem MS_5 (hF : jF D R nL X cc own (cw :: jG) (jTys cI cZ) ret) {i x : Int32} (hi : vp_in i 24) (hd : decode cc pc = .ok (.iastore, 1)) (k : jJ l D R nL X (wM a cI cZ (sU τ 5 i.toNatClampNeg x)) (pc + 1) L st) : jJ l D R nL X (wM a cI cZ τ) pc L (.int x :: .int i :: .ref (a 5) :: st) :=
  jq_iast hF 5 0 _ rfl rfl hi rfl hd k
theorem Mw_6 (f : Nat → Int32) : (wM a cI cZ τ).set 6 (a 6, .inl (cI, 24, .inl f)) = wM a cI cZ (sF τ 6 f) := rfl
theorem Ml_6 (hF : jF D R nL X cc own (cw :: jG) (jTys cI cZ) ret) {i : Nat} (hi : i < 24) (hd : decode cc pc = .ok (.iaload, 1)) (k : jJ l D R nL X (wM a cI cZ τ) (pc + 1) L (.int (τ 6 i) :: st)) : jJ l D R nL X (wM a cI cZ τ) pc L (.int (nI i) :: .ref (a 6) :: st) :=
  jq_ialdN hF 6 0 rfl rfl (by decide) hi hd k
theorem ML_6 (hF : jF D R nL X cc own (cw :: jG) (jTys cI cZ) ret) {i : Int32} (hi : vp_in i 24) (hd : decode cc pc = .ok (.iaload, 1)) (k : jJ l D R nL X (wM a cI cZ τ) (pc + 1) L (.int (τ 6 i.toNatClampNeg) :: st)) : jJ l D R nL X (wM a cI cZ τ) pc L (.int i :: .ref (a 6) :: st) :=
  jq_iald hF 6 0 rfl rfl hi hd k
theorem Ms_6 (hF : jF D R nL X cc own (cw :: jG) (jTys cI cZ) ret) {i : Nat} {x : Int32} (hi : i < 24) (hd : decode cc pc = .ok (.iastore, 1)) (k : jJ l D R nL X (wM a cI cZ (sU τ 6 i x)) (pc + 1) L st) : jJ l D R nL X (wM a cI cZ τ) pc L (.int x :: .int (nI i) :: .ref (a 6) :: st) :=
  jq_iastN hF 6 0 _ rfl rfl (by decide) hi rfl hd k
theorem MS_6 (hF : jF D R nL X cc own (cw :: jG) (jTys cI cZ) ret) {i x : Int32} (hi : vp_in i 24) (hd : decode cc pc = .ok (.iastore, 1)) (k : jJ l D R nL X (wM a cI cZ (sU τ 6 i.toNatClampNeg x)) (pc + 1) L st) : jJ l D R nL X (wM a cI cZ τ) pc L (.int x :: .int i :: .ref (a 6) :: st) :=
  jq_iast hF 6 0 _ rfl rfl hi rfl hd k
theorem Mw_7 (f : Nat → Int32) : (wM a cI cZ τ).set 7 (a 7, .inl (cZ, 24, .inl f)) = wM a cI cZ (sF τ 7 f) := rfl
theorem Ml_7 (hF : jF D R nL X cc own (cw :: jG) (jTys cI cZ) ret) {i : Nat} (hi : i < 24) (hd : decode cc pc = .ok (.baload, 1)) (k : jJ l D R nL X (wM a cI cZ τ) (pc + 1) L (.int (τ 7 i) :: st)) : jJ l D R nL X (wM a cI cZ τ) pc L (.int (nI i) :: .ref (a 7) :: st) :=
  jq_zaldN hF 7 1 rfl rfl (by decide) hi hd k
theorem ML_7 (hF : jF D R nL X cc own (cw :: jG) (jTys cI cZ) ret) {i : Int32} (hi : vp_in i 24) (hd : decode cc pc = .ok (.baload, 1)) (k : jJ l D R nL X (wM a cI cZ τ) (pc + 1) L (.int (τ 7 i.toNatClampNeg) :: st)) : jJ l D R nL X (wM a cI cZ τ) pc L (.int i :: .ref (a 7) :: st) :=
  jq_zald hF 7 1 rfl rfl hi hd k
theorem Ms_7 (hF : jF D R nL X cc own (cw :: jG) (jTys cI cZ) ret) {i : Nat} {x : Int32} (hi : i < 24) (hx : vp_nar .boolean x = x) (hd : decode cc pc = .ok (.bastore, 1)) (k : jJ l D R nL X (wM a cI cZ (sU τ 7 i x)) (pc + 1) L st) : jJ l D R nL X (wM a cI cZ τ) pc L (.int x :: .int (nI i) :: .ref (a 7) :: st) :=
  jq_zastN hF 7 1 _ rfl rfl (by decide) hi (by rw [hx]; rfl) hd k
theorem MS_7 (hF : jF D R nL X cc own (cw :: jG) (jTys cI cZ) ret) {i x : Int32} (hi : vp_in i 24) (hx : vp_nar .boolean x = x) (hd : decode cc pc = .ok (.bastore, 1)) (k : jJ l D R nL X (wM a cI cZ (sU τ 7 i.toNatClampNeg x)) (pc + 1) L st) : jJ l D R nL X (wM a cI cZ τ) pc L (.int x :: .int i :: .ref (a 7) :: st) :=
  jq_zast hF 7 1 _ rfl rfl hi (by rw [hx]; rfl) hd k
theorem Mw_8 (f : Nat → Int32) : (wM a cI cZ τ).set 8 (a 8, .inl (cI, 24, .inl f)) = wM a cI cZ (sF τ 8 f) := rfl
theorem Ml_8 (hF : jF D R nL X cc own (cw :: jG) (jTys cI cZ) ret) {i : Nat} (hi : i < 24) (hd : decode cc pc = .ok (.iaload, 1)) (k : jJ l D R nL X (wM a cI cZ τ) (pc + 1) L (.int (τ 8 i) :: st)) : jJ l D R nL X (wM a cI cZ τ) pc L (.int (nI i) :: .ref (a 8) :: st) :=
  jq_ialdN hF 8 0 rfl rfl (by decide) hi hd k
theorem ML_8 (hF : jF D R nL X cc own (cw :: jG) (jTys cI cZ) ret) {i : Int32} (hi : vp_in i 24) (hd : decode cc pc = .ok (.iaload, 1)) (k : jJ l D R nL X (wM a cI cZ τ) (pc + 1) L (.int (τ 8 i.toNatClampNeg) :: st)) : jJ l D R nL X (wM a cI cZ τ) pc L (.int i :: .ref (a 8) :: st) :=
  jq_iald hF 8 0 rfl rfl hi hd k
theorem Ms_8 (hF : jF D R nL X cc own (cw :: jG) (jTys cI cZ) ret) {i : Nat} {x : Int32} (hi : i < 24) (hd : decode cc pc = .ok (.iastore, 1)) (k : jJ l D R nL X (wM a cI cZ (sU τ 8 i x)) (pc + 1) L st) : jJ l D R nL X (wM a cI cZ τ) pc L (.int x :: .int (nI i) :: .ref (a 8) :: st) :=
  jq_iastN hF 8 0 _ rfl rfl (by decide) hi rfl hd k
theorem MS_8 (hF : jF D R nL X cc own (cw :: jG) (jTys cI cZ) ret) {i x : Int32} (hi : vp_in i 24) (hd : decode cc pc = .ok (.iastore, 1)) (k : jJ l D R nL X (wM a cI cZ (sU τ 8 i.toNatClampNeg x)) (pc + 1) L st) : jJ l D R nL X (wM a cI cZ τ) pc L (.int x :: .int i :: .ref (a 8) :: st) :=
  jq_iast hF 8 0 _ rfl rfl hi rfl hd k
theorem Mw_9 (f : Nat → Int32) : (wM a cI cZ τ).set 9 (a 9, .inl (cI, 24, .inl f)) = wM a cI cZ (sF τ 9 f) := rfl
theorem Ml_9 (hF : jF D R nL X cc own (cw :: jG) (jTys cI cZ) ret) {i : Nat} (hi : i < 24) (hd : decode cc pc = .ok (.iaload, 1)) (k : jJ l D R nL X (wM a cI cZ τ) (pc + 1) L (.int (τ 9 i) :: st)) : jJ l D R nL X (wM a cI cZ τ) pc L (.int (nI i) :: .ref (a 9) :: st) :=
  jq_ialdN hF 9 0 rfl rfl (by decide) hi hd k
theorem ML_9 (hF : jF D R nL X cc own (cw :: jG) (jTys cI cZ) ret) {i : Int32} (hi : vp_in i 24) (hd : decode cc pc = .ok (.iaload, 1)) (k : jJ l D R nL X (wM a cI cZ τ) (pc + 1) L (.int (τ 9 i.toNatClampNeg) :: st)) : jJ l D R nL X (wM a cI cZ τ) pc L (.int i :: .ref (a 9) :: st) :=
  jq_iald hF 9 0 rfl rfl hi hd k
theorem Ms_9 (hF : jF D R nL X cc own (cw :: jG) (jTys cI cZ) ret) {i : Nat} {x : Int32} (hi : i < 24) (hd : decode cc pc = .ok (.iastore, 1)) (k : jJ l D R nL X (wM a cI cZ (sU τ 9 i x)) (pc + 1) L st) : jJ l D R nL X (wM a cI cZ τ) pc L (.int x :: .int (nI i) :: .ref (a 9) :: st) :=
  jq_iastN hF 9 0 _ rfl rfl (by decide) hi rfl hd k
theorem MS_9 (hF : jF D R nL X cc own (cw :: jG) (jTys cI cZ) ret) {i x : Int32} (hi : vp_in i 24) (hd : decode cc pc = .ok (.iastore, 1)) (k : jJ l D R nL X (wM a cI cZ (sU τ 9 i.toNatClampNeg x)) (pc + 1) L st) : jJ l D R nL X (wM a cI cZ τ) pc L (.int x :: .int i :: .ref (a 9) :: st) :=
  jq_iast hF 9 0 _ rfl rfl hi rfl hd k
theorem Mw_10 (f : Nat → Int32) : (wM a cI cZ τ).set 10 (a 10, .inl (cI, 10, .inl f)) = wM a cI cZ (sF τ 10 f) := rfl
theorem Ml_10 (hF : jF D R nL X cc own (cw :: jG) (jTys cI cZ) ret) {i : Nat} (hi : i < 10) (hd : decode cc pc = .ok (.iaload, 1)) (k : jJ l D R nL X (wM a cI cZ τ) (pc + 1) L (.int (τ 10 i) :: st)) : jJ l D R nL X (wM a cI cZ τ) pc L (.int (nI i) :: .ref (a 10) :: st) :=
  jq_ialdN hF 10 0 rfl rfl (by decide) hi hd k
theorem ML_10 (hF : jF D R nL X cc own (cw :: jG) (jTys cI cZ) ret) {i : Int32} (hi : vp_in i 10) (hd : decode cc pc = .ok (.iaload, 1)) (k : jJ l D R nL X (wM a cI cZ τ) (pc + 1) L (.int (τ 10 i.toNatClampNeg) :: st)) : jJ l D R nL X (wM a cI cZ τ) pc L (.int i :: .ref (a 10) :: st) :=
  jq_iald hF 10 0 rfl rfl hi hd k
theorem Ms_10 (hF : jF D R nL X cc own (cw :: jG) (jTys cI cZ) ret) {i : Nat} {x : Int32} (hi : i < 10) (hd : decode cc pc = .ok (.iastore, 1)) (k : jJ l D R nL X (wM a cI cZ (sU τ 10 i x)) (pc + 1) L st) : jJ l D R nL X (wM a cI cZ τ) pc L (.int x :: .int (nI i) :: .ref (a 10) :: st) :=
  jq_iastN hF 10 0 _ rfl rfl (by decide) hi rfl hd k
theorem MS_10 (hF : jF D R nL X cc own (cw :: jG) (jTys cI cZ) ret) {i x : Int32} (hi : vp_in i 10) (hd : decode cc pc = .ok (.iastore, 1)) (k : jJ l D R nL X (wM a cI cZ (sU τ 10 i.toNatClampNeg x)) (pc + 1) L st) : jJ l D R nL X (wM a cI cZ τ) pc L (.int x :: .int i :: .ref (a 10) :: st) :=
  jq_iast hF 10 0 _ rfl rfl hi rfl hd k
theorem Mw_11 (f : Nat → Int32) : (wM a cI cZ τ).set 11 (a 11, .inl (cI, 10, .inl f)) = wM a cI cZ (sF τ 11 f) := rfl
theorem Ml_11 (hF : jF D R nL X cc own (cw :: jG) (jTys cI cZ) ret) {i : Nat} (hi : i < 10) (hd : decode cc pc = .ok (.iaload, 1)) (k : jJ l D R nL X (wM a cI cZ τ) (pc + 1) L (.int (τ 11 i) :: st)) : jJ l D R nL X (wM a cI cZ τ) pc L (.int (nI i) :: .ref (a 11) :: st) :=
  jq_ialdN hF 11 0 rfl rfl (by decide) hi hd k
theorem ML_11 (hF : jF D R nL X cc own (cw :: jG) (jTys cI cZ) ret) {i : Int32} (hi : vp_in i 10) (hd : decode cc pc = .ok (.iaload, 1)) (k : jJ l D R nL X (wM a cI cZ τ) (pc + 1) L (.int (τ 11 i.toNatClampNeg) :: st)) : jJ l D R nL X (wM a cI cZ τ) pc L (.int i :: .ref (a 11) :: st) :=
  jq_iald hF 11 0 rfl rfl hi hd k
theorem Ms_11 (hF : jF D R nL X cc own (cw :: jG) (jTys cI cZ) ret) {i : Nat} {x : Int32} (hi : i < 10) (hd : decode cc pc = .ok (.iastore, 1)) (k : jJ l D R nL X (wM a cI cZ (sU τ 11 i x)) (pc + 1) L st) : jJ l D R nL X (wM a cI cZ τ) pc L (.int x :: .int (nI i) :: .ref (a 11) :: st) :=
  jq_iastN hF 11 0 _ rfl rfl (by decide) hi rfl hd k
theorem MS_11 (hF : jF D R nL X cc own (cw :: jG) (jTys cI cZ) ret) {i x : Int32} (hi : vp_in i 10) (hd : decode cc pc = .ok (.iastore, 1)) (k : jJ l D R nL X (wM a cI cZ (sU τ 11 i.toNatClampNeg x)) (pc + 1) L st) : jJ l D R nL X (wM a cI cZ τ) pc L (.int x :: .int i :: .ref (a 11) :: st) :=
  jq_iast hF 11 0 _ rfl rfl hi rfl hd k
theorem Mw_12 (f : Nat → Int32) : (wM a cI cZ τ).set 12 (a 12, .inl (cI, 10, .inl f)) = wM a cI cZ (sF τ 12 f) := rfl
theorem Ml_12 (hF : jF D R nL X cc own (cw :: jG) (jTys cI cZ) ret) {i : Nat} (hi : i < 10) (hd : decode cc pc = .ok (.iaload, 1)) (k : jJ l D R nL X (wM a cI cZ τ) (pc + 1) L (.int (τ 12 i) :: st)) : jJ l D R nL X (wM a cI cZ τ) pc L (.int (nI i) :: .ref (a 12) :: st) :=
  jq_ialdN hF 12 0 rfl rfl (by decide) hi hd k
theorem ML_12 (hF : jF D R nL X cc own (cw :: jG) (jTys cI cZ) ret) {i : Int32} (hi : vp_in i 10) (hd : decode cc pc = .ok (.iaload, 1)) (k : jJ l D R nL X (wM a cI cZ τ) (pc + 1) L (.int (τ 12 i.toNatClampNeg) :: st)) : jJ l D R nL X (wM a cI cZ τ) pc L (.int i :: .ref (a 12) :: st) :=
  jq_iald hF 12 0 rfl rfl hi hd k
theorem Ms_12 (hF : jF D R nL X cc own (cw :: jG) (jTys cI cZ) ret) {i : Nat} {x : Int32} (hi : i < 10) (hd : decode cc pc = .ok (.iastore, 1)) (k : jJ l D R nL X (wM a cI cZ (sU τ 12 i x)) (pc + 1) L st) : jJ l D R nL X (wM a cI cZ τ) pc L (.int x :: .int (nI i) :: .ref (a 12) :: st) :=
  jq_iastN hF 12 0 _ rfl rfl (by decide) hi rfl hd k
theorem MS_12 (hF : jF D R nL X cc own (cw :: jG) (jTys cI cZ) ret) {i x : Int32} (hi : vp_in i 10) (hd : decode cc pc = .ok (.iastore, 1)) (k : jJ l D R nL X (wM a cI cZ (sU τ 12 i.toNatClampNeg x)) (pc + 1) L st) : jJ l D R nL X (wM a cI cZ τ) pc L (.int x :: .int i :: .ref (a 12) :: st) :=
  jq_iast hF 12 0 _ rfl rfl hi rfl hd k
theorem Mw_13 (f : Nat → Int32) : (wM a cI cZ τ).set 13 (a 13, .inl (cZ, 10, .inl f)) = wM a cI cZ (sF τ 13 f) := rfl
theorem Ml_13 (hF : jF D R nL X cc own (cw :: jG) (jTys cI cZ) ret) {i : Nat} (hi : i < 10) (hd : decode cc pc = .ok (.baload, 1)) (k : jJ l D R nL X (wM a cI cZ τ) (pc + 1) L (.int (τ 13 i) :: st)) : jJ l D R nL X (wM a cI cZ τ) pc L (.int (nI i) :: .ref (a 13) :: st) :=
  jq_zaldN hF 13 1 rfl rfl (by decide) hi hd k
theorem ML_13 (hF : jF D R nL X cc own (cw :: jG) (jTys cI cZ) ret) {i : Int32} (hi : vp_in i 10) (hd : decode cc pc = .ok (.baload, 1)) (k : jJ l D R nL X (wM a cI cZ τ) (pc + 1) L (.int (τ 13 i.toNatClampNeg) :: st)) : jJ l D R nL X (wM a cI cZ τ) pc L (.int i :: .ref (a 13) :: st) :=
  jq_zald hF 13 1 rfl rfl hi hd k
theorem Ms_13 (hF : jF D R nL X cc own (cw :: jG) (jTys cI cZ) ret) {i : Nat} {x : Int32} (hi : i < 10) (hx : vp_nar .boolean x = x) (hd : decode cc pc = .ok (.bastore, 1)) (k : jJ l D R nL X (wM a cI cZ (sU τ 13 i x)) (pc + 1) L st) : jJ l D R nL X (wM a cI cZ τ) pc L (.int x :: .int (nI i) :: .ref (a 13) :: st) :=
  jq_zastN hF 13 1 _ rfl rfl (by decide) hi (by rw [hx]; rfl) hd k
theorem MS_13 (hF : jF D R nL X cc own (cw :: jG) (jTys cI cZ) ret) {i x : Int32} (hi : vp_in i 10) (hx : vp_nar .boolean x = x) (hd : decode cc pc = .ok (.bastore, 1)) (k : jJ l D R nL X (wM a cI cZ (sU τ 13 i.toNatClampNeg x)) (pc + 1) L st) : jJ l D R nL X (wM a cI cZ τ) pc L (.int x :: .int i :: .ref (a 13) :: st) :=
  jq_zast hF 13 1 _ rfl rfl hi (by rw [hx]; rfl) hd k
theorem Mw_14 (f : Nat → Int32) : (wM a cI cZ τ).set 14 (a 14, .inl (cI, 6, .inl f)) = wM a cI cZ (sF τ 14 f) := rfl
theorem Ml_14 (hF : jF D R nL X cc own (cw :: jG) (jTys cI cZ) ret) {i : Nat} (hi : i < 6) (hd : decode cc pc = .ok (.iaload, 1)) (k : jJ l D R nL X (wM a cI cZ τ) (pc + 1) L (.int (τ 14 i) :: st)) : jJ l D R nL X (wM a cI cZ τ) pc L (.int (nI i) :: .ref (a 14) :: st) :=
  jq_ialdN hF 14 0 rfl rfl (by decide) hi hd k
theorem ML_14 (hF : jF D R nL X cc own (cw :: jG) (jTys cI cZ) ret) {i : Int32} (hi : vp_in i 6) (hd : decode cc pc = .ok (.iaload, 1)) (k : jJ l D R nL X (wM a cI cZ τ) (pc + 1) L (.int (τ 14 i.toNatClampNeg) :: st)) : jJ l D R nL X (wM a cI cZ τ) pc L (.int i :: .ref (a 14) :: st) :=
  jq_iald hF 14 0 rfl rfl hi hd k
theorem Ms_14 (hF : jF D R nL X cc own (cw :: jG) (jTys cI cZ) ret) {i : Nat} {x : Int32} (hi : i < 6) (hd : decode cc pc = .ok (.iastore, 1)) (k : jJ l D R nL X (wM a cI cZ (sU τ 14 i x)) (pc + 1) L st) : jJ l D R nL X (wM a cI cZ τ) pc L (.int x :: .int (nI i) :: .ref (a 14) :: st) :=
  jq_iastN hF 14 0 _ rfl rfl (by decide) hi rfl hd k
theorem MS_14 (hF : jF D R nL X cc own (cw :: jG) (jTys cI cZ) ret) {i x : Int32} (hi : vp_in i 6) (hd : decode cc pc = .ok (.iastore, 1)) (k : jJ l D R nL X (wM a cI cZ (sU τ 14 i.toNatClampNeg x)) (pc + 1) L st) : jJ l D R nL X (wM a cI cZ τ) pc L (.int x :: .int i :: .ref (a 14) :: st) :=
  jq_iast hF 14 0 _ rfl rfl hi rfl hd k
theorem Mw_15 (f : Nat → Int32) : (wM a cI cZ τ).set 15 (a 15, .inl (cI, 6, .inl f)) = wM a cI cZ (sF τ 15 f) := rfl
theorem Ml_15 (hF : jF D R nL X cc own (cw :: jG) (jTys cI cZ) ret) {i : Nat} (hi : i < 6) (hd : decode cc pc = .ok (.iaload, 1)) (k : jJ l D R nL X (wM a cI cZ τ) (pc + 1) L (.int (τ 15 i) :: st)) : jJ l D R nL X (wM a cI cZ τ) pc L (.int (nI i) :: .ref (a 15) :: st) :=
  jq_ialdN hF 15 0 rfl rfl (by decide) hi hd k
theorem ML_15 (hF : jF D R nL X cc own (cw :: jG) (jTys cI cZ) ret) {i : Int32} (hi : vp_in i 6) (hd : decode cc pc = .ok (.iaload, 1)) (k : jJ l D R nL X (wM a cI cZ τ) (pc + 1) L (.int (τ 15 i.toNatClampNeg) :: st)) : jJ l D R nL X (wM a cI cZ τ) pc L (.int i :: .ref (a 15) :: st) :=
  jq_iald hF 15 0 rfl rfl hi hd k
theorem Ms_15 (hF : jF D R nL X cc own (cw :: jG) (jTys cI cZ) ret) {i : Nat} {x : Int32} (hi : i < 6) (hd : decode cc pc = .ok (.iastore, 1)) (k : jJ l D R nL X (wM a cI cZ (sU τ 15 i x)) (pc + 1) L st) : jJ l D R nL X (wM a cI cZ τ) pc L (.int x :: .int (nI i) :: .ref (a 15) :: st) :=
  jq_iastN hF 15 0 _ rfl rfl (by decide) hi rfl hd k
theorem MS_15 (hF : jF D R nL X cc own (cw :: jG) (jTys cI cZ) ret) {i x : Int32} (hi : vp_in i 6) (hd : decode cc pc = .ok (.iastore, 1)) (k : jJ l D R nL X (wM a cI cZ (sU τ 15 i.toNatClampNeg x)) (pc + 1) L st) : jJ l D R nL X (wM a cI cZ τ) pc L (.int x :: .int i :: .ref (a 15) :: st) :=
  jq_iast hF 15 0 _ rfl rfl hi rfl hd k
theorem Mw_16 (f : Nat → Int32) : (wM a cI cZ τ).set 16 (a 16, .inl (cZ, 48, .inl f)) = wM a cI cZ (sF τ 16 f) := rfl
theorem Ml_16 (hF : jF D R nL X cc own (cw :: jG) (jTys cI cZ) ret) {i : Nat} (hi : i < 48) (hd : decode cc pc = .ok (.baload, 1)) (k : jJ l D R nL X (wM a cI cZ τ) (pc + 1) L (.int (τ 16 i) :: st)) : jJ l D R nL X (wM a cI cZ τ) pc L (.int (nI i) :: .ref (a 16) :: st) :=
  jq_zaldN hF 16 1 rfl rfl (by decide) hi hd k
theorem ML_16 (hF : jF D R nL X cc own (cw :: jG) (jTys cI cZ) ret) {i : Int32} (hi : vp_in i 48) (hd : decode cc pc = .ok (.baload, 1)) (k : jJ l D R nL X (wM a cI cZ τ) (pc + 1) L (.int (τ 16 i.toNatClampNeg) :: st)) : jJ l D R nL X (wM a cI cZ τ) pc L (.int i :: .ref (a 16) :: st) :=
  jq_zald hF 16 1 rfl rfl hi hd k
theorem Ms_16 (hF : jF D R nL X cc own (cw :: jG) (jTys cI cZ) ret) {i : Nat} {x : Int32} (hi : i < 48) (hx : vp_nar .boolean x = x) (hd : decode cc pc = .ok (.bastore, 1)) (k : jJ l D R nL X (wM a cI cZ (sU τ 16 i x)) (pc + 1) L st) : jJ l D R nL X (wM a cI cZ τ) pc L (.int x :: .int (nI i) :: .ref (a 16) :: st) :=
  jq_zastN hF 16 1 _ rfl rfl (by decide) hi (by rw [hx]; rfl) hd k
theorem MS_16 (hF : jF D R nL X cc own (cw :: jG) (jTys cI cZ) ret) {i x : Int32} (hi : vp_in i 48) (hx : vp_nar .boolean x = x) (hd : decode cc pc = .ok (.bastore, 1)) (k : jJ l D R nL X (wM a cI cZ (sU τ 16 i.toNatClampNeg x)) (pc + 1) L st) : jJ l D R nL X (wM a cI cZ τ) pc L (.int x :: .int i :: .ref (a 16) :: st) :=
  jq_zast hF 16 1 _ rfl rfl hi (by rw [hx]; rfl) hd k
theorem Mw_17 (f : Nat → Int32) : (wM a cI cZ τ).set 17 (a 17, .inl (cI, 48, .inl f)) = wM a cI cZ (sF τ 17 f) := rfl
theorem Ml_17 (hF : jF D R nL X cc own (cw :: jG) (jTys cI cZ) ret) {i : Nat} (hi : i < 48) (hd : decode cc pc = .ok (.iaload, 1)) (k : jJ l D R nL X (wM a cI cZ τ) (pc + 1) L (.int (τ 17 i) :: st)) : jJ l D R nL X (wM a cI cZ τ) pc L (.int (nI i) :: .ref (a 17) :: st) :=
  jq_ialdN hF 17 0 rfl rfl (by decide) hi hd k
theorem ML_17 (hF : jF D R nL X cc own (cw :: jG) (jTys cI cZ) ret) {i : Int32} (hi : vp_in i 48) (hd : decode cc pc = .ok (.iaload, 1)) (k : jJ l D R nL X (wM a cI cZ τ) (pc + 1) L (.int (τ 17 i.toNatClampNeg) :: st)) : jJ l D R nL X (wM a cI cZ τ) pc L (.int i :: .ref (a 17) :: st) :=
  jq_iald hF 17 0 rfl rfl hi hd k
theorem Ms_17 (hF : jF D R nL X cc own (cw :: jG) (jTys cI cZ) ret) {i : Nat} {x : Int32} (hi : i < 48) (hd : decode cc pc = .ok (.iastore, 1)) (k : jJ l D R nL X (wM a cI cZ (sU τ 17 i x)) (pc + 1) L st) : jJ l D R nL X (wM a cI cZ τ) pc L (.int x :: .int (nI i) :: .ref (a 17) :: st) :=
  jq_iastN hF 17 0 _ rfl rfl (by decide) hi rfl hd k
theorem MS_17 (hF : jF D R nL X cc own (cw :: jG) (jTys cI cZ) ret) {i x : Int32} (hi : vp_in i 48) (hd : decode cc pc = .ok (.iastore, 1)) (k : jJ l D R nL X (wM a cI cZ (sU τ 17 i.toNatClampNeg x)) (pc + 1) L st) : jJ l D R nL X (wM a cI cZ τ) pc L (.int x :: .int i :: .ref (a 17) :: st) :=
  jq_iast hF 17 0 _ rfl rfl hi rfl hd k
theorem Mw_18 (f : Nat → Int32) : (wM a cI cZ τ).set 18 (a 18, .inl (cI, 48, .inl f)) = wM a cI cZ (sF τ 18 f) := rfl
theorem Ml_18 (hF : jF D R nL X cc own (cw :: jG) (jTys cI cZ) ret) {i : Nat} (hi : i < 48) (hd : decode cc pc = .ok (.iaload, 1)) (k : jJ l D R nL X (wM a cI cZ τ) (pc + 1) L (.int (τ 18 i) :: st)) : jJ l D R nL X (wM a cI cZ τ) pc L (.int (nI i) :: .ref (a 18) :: st) :=
  jq_ialdN hF 18 0 rfl rfl (by decide) hi hd k
theorem ML_18 (hF : jF D R nL X cc own (cw :: jG) (jTys cI cZ) ret) {i : Int32} (hi : vp_in i 48) (hd : decode cc pc = .ok (.iaload, 1)) (k : jJ l D R nL X (wM a cI cZ τ) (pc + 1) L (.int (τ 18 i.toNatClampNeg) :: st)) : jJ l D R nL X (wM a cI cZ τ) pc L (.int i :: .ref (a 18) :: st) :=
  jq_iald hF 18 0 rfl rfl hi hd k
theorem Ms_18 (hF : jF D R nL X cc own (cw :: jG) (jTys cI cZ) ret) {i : Nat} {x : Int32} (hi : i < 48) (hd : decode cc pc = .ok (.iastore, 1)) (k : jJ l D R nL X (wM a cI cZ (sU τ 18 i x)) (pc + 1) L st) : jJ l D R nL X (wM a cI cZ τ) pc L (.int x :: .int (nI i) :: .ref (a 18) :: st) :=
  jq_iastN hF 18 0 _ rfl rfl (by decide) hi rfl hd k
theorem MS_18 (hF : jF D R nL X cc own (cw :: jG) (jTys cI cZ) ret) {i x : Int32} (hi : vp_in i 48) (hd : decode cc pc = .ok (.iastore, 1)) (k : jJ l D R nL X (wM a cI cZ (sU τ 18 i.toNatClampNeg x)) (pc + 1) L st) : jJ l D R nL X (wM a cI cZ τ) pc L (.int x :: .int i :: .ref (a 18) :: st) :=
  jq_iast hF 18 0 _ rfl rfl hi rfl hd k
theorem Mw_19 (f : Nat → Int32) : (wM a cI cZ τ).set 19 (a 19, .inl (cI, 48, .inl f)) = wM a cI cZ (sF τ 19 f) := rfl
theorem Ml_19 (hF : jF D R nL X cc own (cw :: jG) (jTys cI cZ) ret) {i : Nat} (hi : i < 48) (hd : decode cc pc = .ok (.iaload, 1)) (k : jJ l D R nL X (wM a cI cZ τ) (pc + 1) L (.int (τ 19 i) :: st)) : jJ l D R nL X (wM a cI cZ τ) pc L (.int (nI i) :: .ref (a 19) :: st) :=
  jq_ialdN hF 19 0 rfl rfl (by decide) hi hd k
theorem ML_19 (hF : jF D R nL X cc own (cw :: jG) (jTys cI cZ) ret) {i : Int32} (hi : vp_in i 48) (hd : decode cc pc = .ok (.iaload, 1)) (k : jJ l D R nL X (wM a cI cZ τ) (pc + 1) L (.int (τ 19 i.toNatClampNeg) :: st)) : jJ l D R nL X (wM a cI cZ τ) pc L (.int i :: .ref (a 19) :: st) :=
  jq_iald hF 19 0 rfl rfl hi hd k
theorem Ms_19 (hF : jF D R nL X cc own (cw :: jG) (jTys cI cZ) ret) {i : Nat} {x : Int32} (hi : i < 48) (hd : decode cc pc = .ok (.iastore, 1)) (k : jJ l D R nL X (wM a cI cZ (sU τ 19 i x)) (pc + 1) L st) : jJ l D R nL X (wM a cI cZ τ) pc L (.int x :: .int (nI i) :: .ref (a 19) :: st) :=
  jq_iastN hF 19 0 _ rfl rfl (by decide) hi rfl hd k
theorem MS_19 (hF : jF D R nL X cc own (cw :: jG) (jTys cI cZ) ret) {i x : Int32} (hi : vp_in i 48) (hd : decode cc pc = .ok (.iastore, 1)) (k : jJ l D R nL X (wM a cI cZ (sU τ 19 i.toNatClampNeg x)) (pc + 1) L st) : jJ l D R nL X (wM a cI cZ τ) pc L (.int x :: .int i :: .ref (a 19) :: st) :=
  jq_iast hF 19 0 _ rfl rfl hi rfl hd k
theorem Mw_20 (f : Nat → Int32) : (wM a cI cZ τ).set 20 (a 20, .inl (cI, 48, .inl f)) = wM a cI cZ (sF τ 20 f) := rfl
theorem Ml_20 (hF : jF D R nL X cc own (cw :: jG) (jTys cI cZ) ret) {i : Nat} (hi : i < 48) (hd : decode cc pc = .ok (.iaload, 1)) (k : jJ l D R nL X (wM a cI cZ τ) (pc + 1) L (.int (τ 20 i) :: st)) : jJ l D R nL X (wM a cI cZ τ) pc L (.int (nI i) :: .ref (a 20) :: st) :=
  jq_ialdN hF 20 0 rfl rfl (by decide) hi hd k
theorem ML_20 (hF : jF D R nL X cc own (cw :: jG) (jTys cI cZ) ret) {i : Int32} (hi : vp_in i 48) (hd : decode cc pc = .ok (.iaload, 1)) (k : jJ l D R nL X (wM a cI cZ τ) (pc + 1) L (.int (τ 20 i.toNatClampNeg) :: st)) : jJ l D R nL X (wM a cI cZ τ) pc L (.int i :: .ref (a 20) :: st) :=
  jq_iald hF 20 0 rfl rfl hi hd k
theorem Ms_20 (hF : jF D R nL X cc own (cw :: jG) (jTys cI cZ) ret) {i : Nat} {x : Int32} (hi : i < 48) (hd : decode cc pc = .ok (.iastore, 1)) (k : jJ l D R nL X (wM a cI cZ (sU τ 20 i x)) (pc + 1) L st) : jJ l D R nL X (wM a cI cZ τ) pc L (.int x :: .int (nI i) :: .ref (a 20) :: st) :=
  jq_iastN hF 20 0 _ rfl rfl (by decide) hi rfl hd k
theorem MS_20 (hF : jF D R nL X cc own (cw :: jG) (jTys cI cZ) ret) {i x : Int32} (hi : vp_in i 48) (hd : decode cc pc = .ok (.iastore, 1)) (k : jJ l D R nL X (wM a cI cZ (sU τ 20 i.toNatClampNeg x)) (pc + 1) L st) : jJ l D R nL X (wM a cI cZ τ) pc L (.int x :: .int i :: .ref (a 20) :: st) :=
  jq_iast hF 20 0 _ rfl rfl hi rfl hd k
theorem Mw_21 (f : Nat → Int32) : (wM a cI cZ τ).set 21 (a 21, .inl (cI, 48, .inl f)) = wM a cI cZ (sF τ 21 f) := rfl
theorem Ml_21 (hF : jF D R nL X cc own (cw :: jG) (jTys cI cZ) ret) {i : Nat} (hi : i < 48) (hd : decode cc pc = .ok (.iaload, 1)) (k : jJ l D R nL X (wM a cI cZ τ) (pc + 1) L (.int (τ 21 i) :: st)) : jJ l D R nL X (wM a cI cZ τ) pc L (.int (nI i) :: .ref (a 21) :: st) :=
  jq_ialdN hF 21 0 rfl rfl (by decide) hi hd k
theorem ML_21 (hF : jF D R nL X cc own (cw :: jG) (jTys cI cZ) ret) {i : Int32} (hi : vp_in i 48) (hd : decode cc pc = .ok (.iaload, 1)) (k : jJ l D R nL X (wM a cI cZ τ) (pc + 1) L (.int (τ 21 i.toNatClampNeg) :: st)) : jJ l D R nL X (wM a cI cZ τ) pc L (.int i :: .ref (a 21) :: st) :=
  jq_iald hF 21 0 rfl rfl hi hd k
theorem Ms_21 (hF : jF D R nL X cc own (cw :: jG) (jTys cI cZ) ret) {i : Nat} {x : Int32} (hi : i < 48) (hd : decode cc pc = .ok (.iastore, 1)) (k : jJ l D R nL X (wM a cI cZ (sU τ 21 i x)) (pc + 1) L st) : jJ l D R nL X (wM a cI cZ τ) pc L (.int x :: .int (nI i) :: .ref (a 21) :: st) :=
  jq_iastN hF 21 0 _ rfl rfl (by decide) hi rfl hd k
theorem MS_21 (hF : jF D R nL X cc own (cw :: jG) (jTys cI cZ) ret) {i x : Int32} (hi : vp_in i 48) (hd : decode cc pc = .ok (.iastore, 1)) (k : jJ l D R nL X (wM a cI cZ (sU τ 21 i.toNatClampNeg x)) (pc + 1) L st) : jJ l D R nL X (wM a cI cZ τ) pc L (.int x :: .int i :: .ref (a 21) :: st) :=
  jq_iast hF 21 0 _ rfl rfl hi rfl hd k
theorem Mw_22 (f : Nat → Int32) : (wM a cI cZ τ).set 22 (a 22, .inl (cZ, 48, .inl f)) = wM a cI cZ (sF τ 22 f) := rfl
theorem Ml_22 (hF : jF D R nL X cc own (cw :: jG) (jTys cI cZ) ret) {i : Nat} (hi : i < 48) (hd : decode cc pc = .ok (.baload, 1)) (k : jJ l D R nL X (wM a cI cZ τ) (pc + 1) L (.int (τ 22 i) :: st)) : jJ l D R nL X (wM a cI cZ τ) pc L (.int (nI i) :: .ref (a 22) :: st) :=
  jq_zaldN hF 22 1 rfl rfl (by decide) hi hd k
theorem ML_22 (hF : jF D R nL X cc own (cw :: jG) (jTys cI cZ) ret) {i : Int32} (hi : vp_in i 48) (hd : decode cc pc = .ok (.baload, 1)) (k : jJ l D R nL X (wM a cI cZ τ) (pc + 1) L (.int (τ 22 i.toNatClampNeg) :: st)) : jJ l D R nL X (wM a cI cZ τ) pc L (.int i :: .ref (a 22) :: st) :=
  jq_zald hF 22 1 rfl rfl hi hd k
theorem Ms_22 (hF : jF D R nL X cc own (cw :: jG) (jTys cI cZ) ret) {i : Nat} {x : Int32} (hi : i < 48) (hx : vp_nar .boolean x = x) (hd : decode cc pc = .ok (.bastore, 1)) (k : jJ l D R nL X (wM a cI cZ (sU τ 22 i x)) (pc + 1) L st) : jJ l D R nL X (wM a cI cZ τ) pc L (.int x :: .int (nI i) :: .ref (a 22) :: st) :=
  jq_zastN hF 22 1 _ rfl rfl (by decide) hi (by rw [hx]; rfl) hd k
theorem MS_22 (hF : jF D R nL X cc own (cw :: jG) (jTys cI cZ) ret) {i x : Int32} (hi : vp_in i 48) (hx : vp_nar .boolean x = x) (hd : decode cc pc = .ok (.bastore, 1)) (k : jJ l D R nL X (wM a cI cZ (sU τ 22 i.toNatClampNeg x)) (pc + 1) L st) : jJ l D R nL X (wM a cI cZ τ) pc L (.int x :: .int i :: .ref (a 22) :: st) :=
  jq_zast hF 22 1 _ rfl rfl hi (by rw [hx]; rfl) hd k
theorem Mw_23 (f : Nat → Int32) : (wM a cI cZ τ).set 23 (a 23, .inl (cZ, 24, .inl f)) = wM a cI cZ (sF τ 23 f) := rfl
theorem Ml_23 (hF : jF D R nL X cc own (cw :: jG) (jTys cI cZ) ret) {i : Nat} (hi : i < 24) (hd : decode cc pc = .ok (.baload, 1)) (k : jJ l D R nL X (wM a cI cZ τ) (pc + 1) L (.int (τ 23 i) :: st)) : jJ l D R nL X (wM a cI cZ τ) pc L (.int (nI i) :: .ref (a 23) :: st) :=
  jq_zaldN hF 23 1 rfl rfl (by decide) hi hd k
theorem ML_23 (hF : jF D R nL X cc own (cw :: jG) (jTys cI cZ) ret) {i : Int32} (hi : vp_in i 24) (hd : decode cc pc = .ok (.baload, 1)) (k : jJ l D R nL X (wM a cI cZ τ) (pc + 1) L (.int (τ 23 i.toNatClampNeg) :: st)) : jJ l D R nL X (wM a cI cZ τ) pc L (.int i :: .ref (a 23) :: st) :=
  jq_zald hF 23 1 rfl rfl hi hd k
theorem Ms_23 (hF : jF D R nL X cc own (cw :: jG) (jTys cI cZ) ret) {i : Nat} {x : Int32} (hi : i < 24) (hx : vp_nar .boolean x = x) (hd : decode cc pc = .ok (.bastore, 1)) (k : jJ l D R nL X (wM a cI cZ (sU τ 23 i x)) (pc + 1) L st) : jJ l D R nL X (wM a cI cZ τ) pc L (.int x :: .int (nI i) :: .ref (a 23) :: st) :=
  jq_zastN hF 23 1 _ rfl rfl (by decide) hi (by rw [hx]; rfl) hd k
theorem MS_23 (hF : jF D R nL X cc own (cw :: jG) (jTys cI cZ) ret) {i x : Int32} (hi : vp_in i 24) (hx : vp_nar .boolean x = x) (hd : decode cc pc = .ok (.bastore, 1)) (k : jJ l D R nL X (wM a cI cZ (sU τ 23 i.toNatClampNeg x)) (pc + 1) L st) : jJ l D R nL X (wM a cI cZ τ) pc L (.int x :: .int i :: .ref (a 23) :: st) :=
  jq_zast hF 23 1 _ rfl rfl hi (by rw [hx]; rfl) hd k
theorem Mw_24 (f : Nat → Int32) : (wM a cI cZ τ).set 24 (a 24, .inl (cI, 24, .inl f)) = wM a cI cZ (sF τ 24 f) := rfl
theorem Ml_24 (hF : jF D R nL X cc own (cw :: jG) (jTys cI cZ) ret) {i : Nat} (hi : i < 24) (hd : decode cc pc = .ok (.iaload, 1)) (k : jJ l D R nL X (wM a cI cZ τ) (pc + 1) L (.int (τ 24 i) :: st)) : jJ l D R nL X (wM a cI cZ τ) pc L (.int (nI i) :: .ref (a 24) :: st) :=
  jq_ialdN hF 24 0 rfl rfl (by decide) hi hd k
theorem ML_24 (hF : jF D R nL X cc own (cw :: jG) (jTys cI cZ) ret) {i : Int32} (hi : vp_in i 24) (hd : decode cc pc = .ok (.iaload, 1)) (k : jJ l D R nL X (wM a cI cZ τ) (pc + 1) L (.int (τ 24 i.toNatClampNeg) :: st)) : jJ l D R nL X (wM a cI cZ τ) pc L (.int i :: .ref (a 24) :: st) :=
  jq_iald hF 24 0 rfl rfl hi hd k
theorem Ms_24 (hF : jF D R nL X cc own (cw :: jG) (jTys cI cZ) ret) {i : Nat} {x : Int32} (hi : i < 24) (hd : decode cc pc = .ok (.iastore, 1)) (k : jJ l D R nL X (wM a cI cZ (sU τ 24 i x)) (pc + 1) L st) : jJ l D R nL X (wM a cI cZ τ) pc L (.int x :: .int (nI i) :: .ref (a 24) :: st) :=
  jq_iastN hF 24 0 _ rfl rfl (by decide) hi rfl hd k
theorem MS_24 (hF : jF D R nL X cc own (cw :: jG) (jTys cI cZ) ret) {i x : Int32} (hi : vp_in i 24) (hd : decode cc pc = .ok (.iastore, 1)) (k : jJ l D R nL X (wM a cI cZ (sU τ 24 i.toNatClampNeg x)) (pc + 1) L st) : jJ l D R nL X (wM a cI cZ τ) pc L (.int x :: .int i :: .ref (a 24) :: st) :=
  jq_iast hF 24 0 _ rfl rfl hi rfl hd k
theorem Mw_25 (f : Nat → Int32) : (wM a cI cZ τ).set 25 (a 25, .inl (cI, 24, .inl f)) = wM a cI cZ (sF τ 25 f) := rfl
theorem Ml_25 (hF : jF D R nL X cc own (cw :: jG) (jTys cI cZ) ret) {i : Nat} (hi : i < 24) (hd : decode cc pc = .ok (.iaload, 1)) (k : jJ l D R nL X (wM a cI cZ τ) (pc + 1) L (.int (τ 25 i) :: st)) : jJ l D R nL X (wM a cI cZ τ) pc L (.int (nI i) :: .ref (a 25) :: st) :=
  jq_ialdN hF 25 0 rfl rfl (by decide) hi hd k
theorem ML_25 (hF : jF D R nL X cc own (cw :: jG) (jTys cI cZ) ret) {i : Int32} (hi : vp_in i 24) (hd : decode cc pc = .ok (.iaload, 1)) (k : jJ l D R nL X (wM a cI cZ τ) (pc + 1) L (.int (τ 25 i.toNatClampNeg) :: st)) : jJ l D R nL X (wM a cI cZ τ) pc L (.int i :: .ref (a 25) :: st) :=
  jq_iald hF 25 0 rfl rfl hi hd k
theorem Ms_25 (hF : jF D R nL X cc own (cw :: jG) (jTys cI cZ) ret) {i : Nat} {x : Int32} (hi : i < 24) (hd : decode cc pc = .ok (.iastore, 1)) (k : jJ l D R nL X (wM a cI cZ (sU τ 25 i x)) (pc + 1) L st) : jJ l D R nL X (wM a cI cZ τ) pc L (.int x :: .int (nI i) :: .ref (a 25) :: st) :=
  jq_iastN hF 25 0 _ rfl rfl (by decide) hi rfl hd k
theorem MS_25 (hF : jF D R nL X cc own (cw :: jG) (jTys cI cZ) ret) {i x : Int32} (hi : vp_in i 24) (hd : decode cc pc = .ok (.iastore, 1)) (k : jJ l D R nL X (wM a cI cZ (sU τ 25 i.toNatClampNeg x)) (pc + 1) L st) : jJ l D R nL X (wM a cI cZ τ) pc L (.int x :: .int i :: .ref (a 25) :: st) :=
  jq_iast hF 25 0 _ rfl rfl hi rfl hd k
theorem Mw_26 (f : Nat → Int32) : (wM a cI cZ τ).set 26 (a 26, .inl (cI, 168, .inl f)) = wM a cI cZ (sF τ 26 f) := rfl
theorem Ml_26 (hF : jF D R nL X cc own (cw :: jG) (jTys cI cZ) ret) {i : Nat} (hi : i < 168) (hd : decode cc pc = .ok (.iaload, 1)) (k : jJ l D R nL X (wM a cI cZ τ) (pc + 1) L (.int (τ 26 i) :: st)) : jJ l D R nL X (wM a cI cZ τ) pc L (.int (nI i) :: .ref (a 26) :: st) :=
  jq_ialdN hF 26 0 rfl rfl (by decide) hi hd k
theorem ML_26 (hF : jF D R nL X cc own (cw :: jG) (jTys cI cZ) ret) {i : Int32} (hi : vp_in i 168) (hd : decode cc pc = .ok (.iaload, 1)) (k : jJ l D R nL X (wM a cI cZ τ) (pc + 1) L (.int (τ 26 i.toNatClampNeg) :: st)) : jJ l D R nL X (wM a cI cZ τ) pc L (.int i :: .ref (a 26) :: st) :=
  jq_iald hF 26 0 rfl rfl hi hd k
theorem Ms_26 (hF : jF D R nL X cc own (cw :: jG) (jTys cI cZ) ret) {i : Nat} {x : Int32} (hi : i < 168) (hd : decode cc pc = .ok (.iastore, 1)) (k : jJ l D R nL X (wM a cI cZ (sU τ 26 i x)) (pc + 1) L st) : jJ l D R nL X (wM a cI cZ τ) pc L (.int x :: .int (nI i) :: .ref (a 26) :: st) :=
  jq_iastN hF 26 0 _ rfl rfl (by decide) hi rfl hd k
theorem MS_26 (hF : jF D R nL X cc own (cw :: jG) (jTys cI cZ) ret) {i x : Int32} (hi : vp_in i 168) (hd : decode cc pc = .ok (.iastore, 1)) (k : jJ l D R nL X (wM a cI cZ (sU τ 26 i.toNatClampNeg x)) (pc + 1) L st) : jJ l D R nL X (wM a cI cZ τ) pc L (.int x :: .int i :: .ref (a 26) :: st) :=
  jq_iast hF 26 0 _ rfl rfl hi rfl hd k
theorem Mw_27 (f : Nat → Int32) : (wM a cI cZ τ).set 27 (a 27, .inl (cI, 168, .inl f)) = wM a cI cZ (sF τ 27 f) := rfl
theorem Ml_27 (hF : jF D R nL X cc own (cw :: jG) (jTys cI cZ) ret) {i : Nat} (hi : i < 168) (hd : decode cc pc = .ok (.iaload, 1)) (k : jJ l D R nL X (wM a cI cZ τ) (pc + 1) L (.int (τ 27 i) :: st)) : jJ l D R nL X (wM a cI cZ τ) pc L (.int (nI i) :: .ref (a 27) :: st) :=
  jq_ialdN hF 27 0 rfl rfl (by decide) hi hd k
theorem ML_27 (hF : jF D R nL X cc own (cw :: jG) (jTys cI cZ) ret) {i : Int32} (hi : vp_in i 168) (hd : decode cc pc = .ok (.iaload, 1)) (k : jJ l D R nL X (wM a cI cZ τ) (pc + 1) L (.int (τ 27 i.toNatClampNeg) :: st)) : jJ l D R nL X (wM a cI cZ τ) pc L (.int i :: .ref (a 27) :: st) :=
  jq_iald hF 27 0 rfl rfl hi hd k
theorem Ms_27 (hF : jF D R nL X cc own (cw :: jG) (jTys cI cZ) ret) {i : Nat} {x : Int32} (hi : i < 168) (hd : decode cc pc = .ok (.iastore, 1)) (k : jJ l D R nL X (wM a cI cZ (sU τ 27 i x)) (pc + 1) L st) : jJ l D R nL X (wM a cI cZ τ) pc L (.int x :: .int (nI i) :: .ref (a 27) :: st) :=
  jq_iastN hF 27 0 _ rfl rfl (by decide) hi rfl hd k
theorem MS_27 (hF : jF D R nL X cc own (cw :: jG) (jTys cI cZ) ret) {i x : Int32} (hi : vp_in i 168) (hd : decode cc pc = .ok (.iastore, 1)) (k : jJ l D R nL X (wM a cI cZ (sU τ 27 i.toNatClampNeg x)) (pc + 1) L st) : jJ l D R nL X (wM a cI cZ τ) pc L (.int x :: .int i :: .ref (a 27) :: st) :=
  jq_iast hF 27 0 _ rfl rfl hi rfl hd k
theorem Mw_28 (f : Nat → Int32) : (wM a cI cZ τ).set 28 (a 28, .inl (cI, 64, .inl f)) = wM a cI cZ (sF τ 28 f) := rfl
theorem Ml_28 (hF : jF D R nL X cc own (cw :: jG) (jTys cI cZ) ret) {i : Nat} (hi : i < 64) (hd : decode cc pc = .ok (.iaload, 1)) (k : jJ l D R nL X (wM a cI cZ τ) (pc + 1) L (.int (τ 28 i) :: st)) : jJ l D R nL X (wM a cI cZ τ) pc L (.int (nI i) :: .ref (a 28) :: st) :=
  jq_ialdN hF 28 0 rfl rfl (by decide) hi hd k
theorem ML_28 (hF : jF D R nL X cc own (cw :: jG) (jTys cI cZ) ret) {i : Int32} (hi : vp_in i 64) (hd : decode cc pc = .ok (.iaload, 1)) (k : jJ l D R nL X (wM a cI cZ τ) (pc + 1) L (.int (τ 28 i.toNatClampNeg) :: st)) : jJ l D R nL X (wM a cI cZ τ) pc L (.int i :: .ref (a 28) :: st) :=
  jq_iald hF 28 0 rfl rfl hi hd k
theorem Ms_28 (hF : jF D R nL X cc own (cw :: jG) (jTys cI cZ) ret) {i : Nat} {x : Int32} (hi : i < 64) (hd : decode cc pc = .ok (.iastore, 1)) (k : jJ l D R nL X (wM a cI cZ (sU τ 28 i x)) (pc + 1) L st) : jJ l D R nL X (wM a cI cZ τ) pc L (.int x :: .int (nI i) :: .ref (a 28) :: st) :=
  jq_iastN hF 28 0 _ rfl rfl (by decide) hi rfl hd k
theorem MS_28 (hF : jF D R nL X cc own (cw :: jG) (jTys cI cZ) ret) {i x : Int32} (hi : vp_in i 64) (hd : decode cc pc = .ok (.iastore, 1)) (k : jJ l D R nL X (wM a cI cZ (sU τ 28 i.toNatClampNeg x)) (pc + 1) L st) : jJ l D R nL X (wM a cI cZ τ) pc L (.int x :: .int i :: .ref (a 28) :: st) :=
  jq_iast hF 28 0 _ rfl rfl hi rfl hd k
theorem Mw_29 (f : Nat → Int32) : (wM a cI cZ τ).set 29 (a 29, .inl (cI, 64, .inl f)) = wM a cI cZ (sF τ 29 f) := rfl
theorem Ml_29 (hF : jF D R nL X cc own (cw :: jG) (jTys cI cZ) ret) {i : Nat} (hi : i < 64) (hd : decode cc pc = .ok (.iaload, 1)) (k : jJ l D R nL X (wM a cI cZ τ) (pc + 1) L (.int (τ 29 i) :: st)) : jJ l D R nL X (wM a cI cZ τ) pc L (.int (nI i) :: .ref (a 29) :: st) :=
  jq_ialdN hF 29 0 rfl rfl (by decide) hi hd k
theorem ML_29 (hF : jF D R nL X cc own (cw :: jG) (jTys cI cZ) ret) {i : Int32} (hi : vp_in i 64) (hd : decode cc pc = .ok (.iaload, 1)) (k : jJ l D R nL X (wM a cI cZ τ) (pc + 1) L (.int (τ 29 i.toNatClampNeg) :: st)) : jJ l D R nL X (wM a cI cZ τ) pc L (.int i :: .ref (a 29) :: st) :=
  jq_iald hF 29 0 rfl rfl hi hd k
theorem Ms_29 (hF : jF D R nL X cc own (cw :: jG) (jTys cI cZ) ret) {i : Nat} {x : Int32} (hi : i < 64) (hd : decode cc pc = .ok (.iastore, 1)) (k : jJ l D R nL X (wM a cI cZ (sU τ 29 i x)) (pc + 1) L st) : jJ l D R nL X (wM a cI cZ τ) pc L (.int x :: .int (nI i) :: .ref (a 29) :: st) :=
  jq_iastN hF 29 0 _ rfl rfl (by decide) hi rfl hd k
theorem MS_29 (hF : jF D R nL X cc own (cw :: jG) (jTys cI cZ) ret) {i x : Int32} (hi : vp_in i 64) (hd : decode cc pc = .ok (.iastore, 1)) (k : jJ l D R nL X (wM a cI cZ (sU τ 29 i.toNatClampNeg x)) (pc + 1) L st) : jJ l D R nL X (wM a cI cZ τ) pc L (.int x :: .int i :: .ref (a 29) :: st) :=
  jq_iast hF 29 0 _ rfl rfl hi rfl hd k
theorem Mg_M_106 (hF : jF D R nL X cc rM (cw :: jG) (jTys cI cZ) ret) (hd : decode cc pc = .ok (.getfield 106, 3)) (k : jJ l D R nL X (wM a cI cZ τ) (pc + 3) L (.int (τ 0 0) :: st)) : jJ l D R nL X (wM a cI cZ τ) pc L (.ref (a 0) :: st) :=
  jq_get hF (fun w h => List.mem_cons_of_mem _ (inM w h)) 0 rfl rfl 0 (by decide) (List.mem_cons_of_mem _ mF_M_106) rfl hd k
theorem Mg_M_109 (hF : jF D R nL X cc rM (cw :: jG) (jTys cI cZ) ret) (hd : decode cc pc = .ok (.getfield 109, 3)) (k : jJ l D R nL X (wM a cI cZ τ) (pc + 3) L (.int (τ 0 1) :: st)) : jJ l D R nL X (wM a cI cZ τ) pc L (.ref (a 0) :: st) :=
  jq_get hF (fun w h => List.mem_cons_of_mem _ (inM w h)) 0 rfl rfl 1 (by decide) (List.mem_cons_of_mem _ mF_M_109) rfl hd k
theorem Mg_M_112 (hF : jF D R nL X cc rM (cw :: jG) (jTys cI cZ) ret) (hd : decode cc pc = .ok (.getfield 112, 3)) (k : jJ l D R nL X (wM a cI cZ τ) (pc + 3) L (.int (τ 0 2) :: st)) : jJ l D R nL X (wM a cI cZ τ) pc L (.ref (a 0) :: st) :=
  jq_get hF (fun w h => List.mem_cons_of_mem _ (inM w h)) 0 rfl rfl 2 (by decide) (List.mem_cons_of_mem _ mF_M_112) rfl hd k
theorem Mg_M_154 (hF : jF D R nL X cc rM (cw :: jG) (jTys cI cZ) ret) (hd : decode cc pc = .ok (.getfield 154, 3)) (k : jJ l D R nL X (wM a cI cZ τ) (pc + 3) L (.int (τ 0 3) :: st)) : jJ l D R nL X (wM a cI cZ τ) pc L (.ref (a 0) :: st) :=
  jq_get hF (fun w h => List.mem_cons_of_mem _ (inM w h)) 0 rfl rfl 3 (by decide) (List.mem_cons_of_mem _ mF_M_154) rfl hd k
theorem Mp_M_154 (hF : jF D R nL X cc rM (cw :: jG) (jTys cI cZ) ret) {x : Int32} (hd : decode cc pc = .ok (.putfield 154, 3)) (k : jJ l D R nL X (wM a cI cZ (sU τ 0 3 x)) (pc + 3) L st) : jJ l D R nL X (wM a cI cZ τ) pc L (.int x :: .ref (a 0) :: st) :=
  jq_put hF _ (fun w h => List.mem_cons_of_mem _ (inM w h)) tyM tkM nmM 0 rfl rfl 3 (by decide) (List.mem_cons_of_mem _ mF_M_154) rfl rfl rfl rfl (Nat.le_of_ble_eq_true rfl) rfl hd k
theorem Mg_M_115 (hF : jF D R nL X cc rM (cw :: jG) (jTys cI cZ) ret) (hd : decode cc pc = .ok (.getfield 115, 3)) (k : jJ l D R nL X (wM a cI cZ τ) (pc + 3) L (.int (τ 0 4) :: st)) : jJ l D R nL X (wM a cI cZ τ) pc L (.ref (a 0) :: st) :=
  jq_get hF (fun w h => List.mem_cons_of_mem _ (inM w h)) 0 rfl rfl 4 (by decide) (List.mem_cons_of_mem _ mF_M_115) rfl hd k
theorem Mp_M_115 (hF : jF D R nL X cc rM (cw :: jG) (jTys cI cZ) ret) {x : Int32} (hd : decode cc pc = .ok (.putfield 115, 3)) (k : jJ l D R nL X (wM a cI cZ (sU τ 0 4 x)) (pc + 3) L st) : jJ l D R nL X (wM a cI cZ τ) pc L (.int x :: .ref (a 0) :: st) :=
  jq_put hF _ (fun w h => List.mem_cons_of_mem _ (inM w h)) tyM tkM nmM 0 rfl rfl 4 (by decide) (List.mem_cons_of_mem _ mF_M_115) rfl rfl rfl rfl (Nat.le_of_ble_eq_true rfl) rfl hd k
theorem Mg_M_7 (hF : jF D R nL X cc rM (cw :: jG) (jTys cI cZ) ret) (hd : decode cc pc = .ok (.getfield 7, 3)) (k : jJ l D R nL X (wM a cI cZ τ) (pc + 3) L (.ref (a 1) :: st)) : jJ l D R nL X (wM a cI cZ τ) pc L (.ref (a 0) :: st) :=
  jq_get hF (fun w h => List.mem_cons_of_mem _ (inM w h)) 0 rfl rfl 5 (by decide) (List.mem_cons_of_mem _ mF_M_7) rfl hd k
theorem Mg_M_13 (hF : jF D R nL X cc rM (cw :: jG) (jTys cI cZ) ret) (hd : decode cc pc = .ok (.getfield 13, 3)) (k : jJ l D R nL X (wM a cI cZ τ) (pc + 3) L (.ref (a 2) :: st)) : jJ l D R nL X (wM a cI cZ τ) pc L (.ref (a 0) :: st) :=
  jq_get hF (fun w h => List.mem_cons_of_mem _ (inM w h)) 0 rfl rfl 6 (by decide) (List.mem_cons_of_mem _ mF_M_13) rfl hd k
theorem Mg_M_16 (hF : jF D R nL X cc rM (cw :: jG) (jTys cI cZ) ret) (hd : decode cc pc = .ok (.getfield 16, 3)) (k : jJ l D R nL X (wM a cI cZ τ) (pc + 3) L (.ref (a 3) :: st)) : jJ l D R nL X (wM a cI cZ τ) pc L (.ref (a 0) :: st) :=
  jq_get hF (fun w h => List.mem_cons_of_mem _ (inM w h)) 0 rfl rfl 7 (by decide) (List.mem_cons_of_mem _ mF_M_16) rfl hd k
theorem Mg_M_20 (hF : jF D R nL X cc rM (cw :: jG) (jTys cI cZ) ret) (hd : decode cc pc = .ok (.getfield 20, 3)) (k : jJ l D R nL X (wM a cI cZ τ) (pc + 3) L (.ref (a 4) :: st)) : jJ l D R nL X (wM a cI cZ τ) pc L (.ref (a 0) :: st) :=
  jq_get hF (fun w h => List.mem_cons_of_mem _ (inM w h)) 0 rfl rfl 8 (by decide) (List.mem_cons_of_mem _ mF_M_20) rfl hd k
theorem Mg_M_23 (hF : jF D R nL X cc rM (cw :: jG) (jTys cI cZ) ret) (hd : decode cc pc = .ok (.getfield 23, 3)) (k : jJ l D R nL X (wM a cI cZ τ) (pc + 3) L (.ref (a 5) :: st)) : jJ l D R nL X (wM a cI cZ τ) pc L (.ref (a 0) :: st) :=
  jq_get hF (fun w h => List.mem_cons_of_mem _ (inM w h)) 0 rfl rfl 9 (by decide) (List.mem_cons_of_mem _ mF_M_23) rfl hd k
theorem Mg_M_26 (hF : jF D R nL X cc rM (cw :: jG) (jTys cI cZ) ret) (hd : decode cc pc = .ok (.getfield 26, 3)) (k : jJ l D R nL X (wM a cI cZ τ) (pc + 3) L (.ref (a 6) :: st)) : jJ l D R nL X (wM a cI cZ τ) pc L (.ref (a 0) :: st) :=
  jq_get hF (fun w h => List.mem_cons_of_mem _ (inM w h)) 0 rfl rfl 10 (by decide) (List.mem_cons_of_mem _ mF_M_26) rfl hd k
theorem Mg_M_29 (hF : jF D R nL X cc rM (cw :: jG) (jTys cI cZ) ret) (hd : decode cc pc = .ok (.getfield 29, 3)) (k : jJ l D R nL X (wM a cI cZ τ) (pc + 3) L (.ref (a 7) :: st)) : jJ l D R nL X (wM a cI cZ τ) pc L (.ref (a 0) :: st) :=
  jq_get hF (fun w h => List.mem_cons_of_mem _ (inM w h)) 0 rfl rfl 11 (by decide) (List.mem_cons_of_mem _ mF_M_29) rfl hd k
theorem Mg_M_32 (hF : jF D R nL X cc rM (cw :: jG) (jTys cI cZ) ret) (hd : decode cc pc = .ok (.getfield 32, 3)) (k : jJ l D R nL X (wM a cI cZ τ) (pc + 3) L (.ref (a 8) :: st)) : jJ l D R nL X (wM a cI cZ τ) pc L (.ref (a 0) :: st) :=
  jq_get hF (fun w h => List.mem_cons_of_mem _ (inM w h)) 0 rfl rfl 12 (by decide) (List.mem_cons_of_mem _ mF_M_32) rfl hd k
theorem Mg_M_35 (hF : jF D R nL X cc rM (cw :: jG) (jTys cI cZ) ret) (hd : decode cc pc = .ok (.getfield 35, 3)) (k : jJ l D R nL X (wM a cI cZ τ) (pc + 3) L (.ref (a 9) :: st)) : jJ l D R nL X (wM a cI cZ τ) pc L (.ref (a 0) :: st) :=
  jq_get hF (fun w h => List.mem_cons_of_mem _ (inM w h)) 0 rfl rfl 13 (by decide) (List.mem_cons_of_mem _ mF_M_35) rfl hd k
theorem Mg_M_126 (hF : jF D R nL X cc rM (cw :: jG) (jTys cI cZ) ret) (hd : decode cc pc = .ok (.getfield 126, 3)) (k : jJ l D R nL X (wM a cI cZ τ) (pc + 3) L (.int (τ 0 5) :: st)) : jJ l D R nL X (wM a cI cZ τ) pc L (.ref (a 0) :: st) :=
  jq_get hF (fun w h => List.mem_cons_of_mem _ (inM w h)) 0 rfl rfl 14 (by decide) (List.mem_cons_of_mem _ mF_M_126) rfl hd k
theorem Mp_M_126 (hF : jF D R nL X cc rM (cw :: jG) (jTys cI cZ) ret) {x : Int32} (hd : decode cc pc = .ok (.putfield 126, 3)) (k : jJ l D R nL X (wM a cI cZ (sU τ 0 5 x)) (pc + 3) L st) : jJ l D R nL X (wM a cI cZ τ) pc L (.int x :: .ref (a 0) :: st) :=
  jq_put hF _ (fun w h => List.mem_cons_of_mem _ (inM w h)) tyM tkM nmM 0 rfl rfl 14 (by decide) (List.mem_cons_of_mem _ mF_M_126) rfl rfl rfl rfl (Nat.le_of_ble_eq_true rfl) rfl hd k
theorem Mg_M_38 (hF : jF D R nL X cc rM (cw :: jG) (jTys cI cZ) ret) (hd : decode cc pc = .ok (.getfield 38, 3)) (k : jJ l D R nL X (wM a cI cZ τ) (pc + 3) L (.ref (a 10) :: st)) : jJ l D R nL X (wM a cI cZ τ) pc L (.ref (a 0) :: st) :=
  jq_get hF (fun w h => List.mem_cons_of_mem _ (inM w h)) 0 rfl rfl 15 (by decide) (List.mem_cons_of_mem _ mF_M_38) rfl hd k
theorem Mg_M_41 (hF : jF D R nL X cc rM (cw :: jG) (jTys cI cZ) ret) (hd : decode cc pc = .ok (.getfield 41, 3)) (k : jJ l D R nL X (wM a cI cZ τ) (pc + 3) L (.ref (a 11) :: st)) : jJ l D R nL X (wM a cI cZ τ) pc L (.ref (a 0) :: st) :=
  jq_get hF (fun w h => List.mem_cons_of_mem _ (inM w h)) 0 rfl rfl 16 (by decide) (List.mem_cons_of_mem _ mF_M_41) rfl hd k
theorem Mg_M_44 (hF : jF D R nL X cc rM (cw :: jG) (jTys cI cZ) ret) (hd : decode cc pc = .ok (.getfield 44, 3)) (k : jJ l D R nL X (wM a cI cZ τ) (pc + 3) L (.ref (a 12) :: st)) : jJ l D R nL X (wM a cI cZ τ) pc L (.ref (a 0) :: st) :=
  jq_get hF (fun w h => List.mem_cons_of_mem _ (inM w h)) 0 rfl rfl 17 (by decide) (List.mem_cons_of_mem _ mF_M_44) rfl hd k
theorem Mg_M_47 (hF : jF D R nL X cc rM (cw :: jG) (jTys cI cZ) ret) (hd : decode cc pc = .ok (.getfield 47, 3)) (k : jJ l D R nL X (wM a cI cZ τ) (pc + 3) L (.ref (a 13) :: st)) : jJ l D R nL X (wM a cI cZ τ) pc L (.ref (a 0) :: st) :=
  jq_get hF (fun w h => List.mem_cons_of_mem _ (inM w h)) 0 rfl rfl 18 (by decide) (List.mem_cons_of_mem _ mF_M_47) rfl hd k
theorem Mg_M_136 (hF : jF D R nL X cc rM (cw :: jG) (jTys cI cZ) ret) (hd : decode cc pc = .ok (.getfield 136, 3)) (k : jJ l D R nL X (wM a cI cZ τ) (pc + 3) L (.int (τ 0 6) :: st)) : jJ l D R nL X (wM a cI cZ τ) pc L (.ref (a 0) :: st) :=
  jq_get hF (fun w h => List.mem_cons_of_mem _ (inM w h)) 0 rfl rfl 19 (by decide) (List.mem_cons_of_mem _ mF_M_136) rfl hd k
theorem Mp_M_136 (hF : jF D R nL X cc rM (cw :: jG) (jTys cI cZ) ret) {x : Int32} (hd : decode cc pc = .ok (.putfield 136, 3)) (k : jJ l D R nL X (wM a cI cZ (sU τ 0 6 x)) (pc + 3) L st) : jJ l D R nL X (wM a cI cZ τ) pc L (.int x :: .ref (a 0) :: st) :=
  jq_put hF _ (fun w h => List.mem_cons_of_mem _ (inM w h)) tyM tkM nmM 0 rfl rfl 19 (by decide) (List.mem_cons_of_mem _ mF_M_136) rfl rfl rfl rfl (Nat.le_of_ble_eq_true rfl) rfl hd k
theorem Mg_M_50 (hF : jF D R nL X cc rM (cw :: jG) (jTys cI cZ) ret) (hd : decode cc pc = .ok (.getfield 50, 3)) (k : jJ l D R nL X (wM a cI cZ τ) (pc + 3) L (.ref (a 14) :: st)) : jJ l D R nL X (wM a cI cZ τ) pc L (.ref (a 0) :: st) :=
  jq_get hF (fun w h => List.mem_cons_of_mem _ (inM w h)) 0 rfl rfl 20 (by decide) (List.mem_cons_of_mem _ mF_M_50) rfl hd k
theorem Mg_M_53 (hF : jF D R nL X cc rM (cw :: jG) (jTys cI cZ) ret) (hd : decode cc pc = .ok (.getfield 53, 3)) (k : jJ l D R nL X (wM a cI cZ τ) (pc + 3) L (.ref (a 15) :: st)) : jJ l D R nL X (wM a cI cZ τ) pc L (.ref (a 0) :: st) :=
  jq_get hF (fun w h => List.mem_cons_of_mem _ (inM w h)) 0 rfl rfl 21 (by decide) (List.mem_cons_of_mem _ mF_M_53) rfl hd k
theorem Mg_M_56 (hF : jF D R nL X cc rM (cw :: jG) (jTys cI cZ) ret) (hd : decode cc pc = .ok (.getfield 56, 3)) (k : jJ l D R nL X (wM a cI cZ τ) (pc + 3) L (.int (τ 0 7) :: st)) : jJ l D R nL X (wM a cI cZ τ) pc L (.ref (a 0) :: st) :=
  jq_get hF (fun w h => List.mem_cons_of_mem _ (inM w h)) 0 rfl rfl 22 (by decide) (List.mem_cons_of_mem _ mF_M_56) rfl hd k
theorem Mp_M_56 (hF : jF D R nL X cc rM (cw :: jG) (jTys cI cZ) ret) {x : Int32} (hd : decode cc pc = .ok (.putfield 56, 3)) (k : jJ l D R nL X (wM a cI cZ (sU τ 0 7 x)) (pc + 3) L st) : jJ l D R nL X (wM a cI cZ τ) pc L (.int x :: .ref (a 0) :: st) :=
  jq_put hF _ (fun w h => List.mem_cons_of_mem _ (inM w h)) tyM tkM nmM 0 rfl rfl 22 (by decide) (List.mem_cons_of_mem _ mF_M_56) rfl rfl rfl rfl (Nat.le_of_ble_eq_true rfl) rfl hd k
theorem Mg_M_60 (hF : jF D R nL X cc rM (cw :: jG) (jTys cI cZ) ret) (hd : decode cc pc = .ok (.getfield 60, 3)) (k : jJ l D R nL X (wM a cI cZ τ) (pc + 3) L (.ref (a 16) :: st)) : jJ l D R nL X (wM a cI cZ τ) pc L (.ref (a 0) :: st) :=
  jq_get hF (fun w h => List.mem_cons_of_mem _ (inM w h)) 0 rfl rfl 23 (by decide) (List.mem_cons_of_mem _ mF_M_60) rfl hd k
theorem Mg_M_63 (hF : jF D R nL X cc rM (cw :: jG) (jTys cI cZ) ret) (hd : decode cc pc = .ok (.getfield 63, 3)) (k : jJ l D R nL X (wM a cI cZ τ) (pc + 3) L (.ref (a 17) :: st)) : jJ l D R nL X (wM a cI cZ τ) pc L (.ref (a 0) :: st) :=
  jq_get hF (fun w h => List.mem_cons_of_mem _ (inM w h)) 0 rfl rfl 24 (by decide) (List.mem_cons_of_mem _ mF_M_63) rfl hd k
theorem Mg_M_66 (hF : jF D R nL X cc rM (cw :: jG) (jTys cI cZ) ret) (hd : decode cc pc = .ok (.getfield 66, 3)) (k : jJ l D R nL X (wM a cI cZ τ) (pc + 3) L (.ref (a 18) :: st)) : jJ l D R nL X (wM a cI cZ τ) pc L (.ref (a 0) :: st) :=
  jq_get hF (fun w h => List.mem_cons_of_mem _ (inM w h)) 0 rfl rfl 25 (by decide) (List.mem_cons_of_mem _ mF_M_66) rfl hd k
theorem Mg_M_69 (hF : jF D R nL X cc rM (cw :: jG) (jTys cI cZ) ret) (hd : decode cc pc = .ok (.getfield 69, 3)) (k : jJ l D R nL X (wM a cI cZ τ) (pc + 3) L (.ref (a 19) :: st)) : jJ l D R nL X (wM a cI cZ τ) pc L (.ref (a 0) :: st) :=
  jq_get hF (fun w h => List.mem_cons_of_mem _ (inM w h)) 0 rfl rfl 26 (by decide) (List.mem_cons_of_mem _ mF_M_69) rfl hd k
theorem Mg_M_72 (hF : jF D R nL X cc rM (cw :: jG) (jTys cI cZ) ret) (hd : decode cc pc = .ok (.getfield 72, 3)) (k : jJ l D R nL X (wM a cI cZ τ) (pc + 3) L (.ref (a 20) :: st)) : jJ l D R nL X (wM a cI cZ τ) pc L (.ref (a 0) :: st) :=
  jq_get hF (fun w h => List.mem_cons_of_mem _ (inM w h)) 0 rfl rfl 27 (by decide) (List.mem_cons_of_mem _ mF_M_72) rfl hd k
theorem Mg_M_75 (hF : jF D R nL X cc rM (cw :: jG) (jTys cI cZ) ret) (hd : decode cc pc = .ok (.getfield 75, 3)) (k : jJ l D R nL X (wM a cI cZ τ) (pc + 3) L (.ref (a 21) :: st)) : jJ l D R nL X (wM a cI cZ τ) pc L (.ref (a 0) :: st) :=
  jq_get hF (fun w h => List.mem_cons_of_mem _ (inM w h)) 0 rfl rfl 28 (by decide) (List.mem_cons_of_mem _ mF_M_75) rfl hd k
theorem Mg_M_78 (hF : jF D R nL X cc rM (cw :: jG) (jTys cI cZ) ret) (hd : decode cc pc = .ok (.getfield 78, 3)) (k : jJ l D R nL X (wM a cI cZ τ) (pc + 3) L (.ref (a 22) :: st)) : jJ l D R nL X (wM a cI cZ τ) pc L (.ref (a 0) :: st) :=
  jq_get hF (fun w h => List.mem_cons_of_mem _ (inM w h)) 0 rfl rfl 29 (by decide) (List.mem_cons_of_mem _ mF_M_78) rfl hd k
theorem Mg_M_81 (hF : jF D R nL X cc rM (cw :: jG) (jTys cI cZ) ret) (hd : decode cc pc = .ok (.getfield 81, 3)) (k : jJ l D R nL X (wM a cI cZ τ) (pc + 3) L (.ref (a 23) :: st)) : jJ l D R nL X (wM a cI cZ τ) pc L (.ref (a 0) :: st) :=
  jq_get hF (fun w h => List.mem_cons_of_mem _ (inM w h)) 0 rfl rfl 30 (by decide) (List.mem_cons_of_mem _ mF_M_81) rfl hd k
theorem Mg_M_84 (hF : jF D R nL X cc rM (cw :: jG) (jTys cI cZ) ret) (hd : decode cc pc = .ok (.getfield 84, 3)) (k : jJ l D R nL X (wM a cI cZ τ) (pc + 3) L (.ref (a 24) :: st)) : jJ l D R nL X (wM a cI cZ τ) pc L (.ref (a 0) :: st) :=
  jq_get hF (fun w h => List.mem_cons_of_mem _ (inM w h)) 0 rfl rfl 31 (by decide) (List.mem_cons_of_mem _ mF_M_84) rfl hd k
theorem Mg_M_87 (hF : jF D R nL X cc rM (cw :: jG) (jTys cI cZ) ret) (hd : decode cc pc = .ok (.getfield 87, 3)) (k : jJ l D R nL X (wM a cI cZ τ) (pc + 3) L (.ref (a 25) :: st)) : jJ l D R nL X (wM a cI cZ τ) pc L (.ref (a 0) :: st) :=
  jq_get hF (fun w h => List.mem_cons_of_mem _ (inM w h)) 0 rfl rfl 32 (by decide) (List.mem_cons_of_mem _ mF_M_87) rfl hd k
theorem Mg_M_90 (hF : jF D R nL X cc rM (cw :: jG) (jTys cI cZ) ret) (hd : decode cc pc = .ok (.getfield 90, 3)) (k : jJ l D R nL X (wM a cI cZ τ) (pc + 3) L (.ref (a 26) :: st)) : jJ l D R nL X (wM a cI cZ τ) pc L (.ref (a 0) :: st) :=
  jq_get hF (fun w h => List.mem_cons_of_mem _ (inM w h)) 0 rfl rfl 33 (by decide) (List.mem_cons_of_mem _ mF_M_90) rfl hd k
theorem Mg_M_93 (hF : jF D R nL X cc rM (cw :: jG) (jTys cI cZ) ret) (hd : decode cc pc = .ok (.getfield 93, 3)) (k : jJ l D R nL X (wM a cI cZ τ) (pc + 3) L (.ref (a 27) :: st)) : jJ l D R nL X (wM a cI cZ τ) pc L (.ref (a 0) :: st) :=
  jq_get hF (fun w h => List.mem_cons_of_mem _ (inM w h)) 0 rfl rfl 34 (by decide) (List.mem_cons_of_mem _ mF_M_93) rfl hd k
theorem Mg_M_96 (hF : jF D R nL X cc rM (cw :: jG) (jTys cI cZ) ret) (hd : decode cc pc = .ok (.getfield 96, 3)) (k : jJ l D R nL X (wM a cI cZ τ) (pc + 3) L (.ref (a 28) :: st)) : jJ l D R nL X (wM a cI cZ τ) pc L (.ref (a 0) :: st) :=
  jq_get hF (fun w h => List.mem_cons_of_mem _ (inM w h)) 0 rfl rfl 35 (by decide) (List.mem_cons_of_mem _ mF_M_96) rfl hd k
theorem Mg_M_99 (hF : jF D R nL X cc rM (cw :: jG) (jTys cI cZ) ret) (hd : decode cc pc = .ok (.getfield 99, 3)) (k : jJ l D R nL X (wM a cI cZ τ) (pc + 3) L (.ref (a 29) :: st)) : jJ l D R nL X (wM a cI cZ τ) pc L (.ref (a 0) :: st) :=
  jq_get hF (fun w h => List.mem_cons_of_mem _ (inM w h)) 0 rfl rfl 36 (by decide) (List.mem_cons_of_mem _ mF_M_99) rfl hd k
theorem Mg_M_194 (hF : jF D R nL X cc rM (cw :: jG) (jTys cI cZ) ret) (hd : decode cc pc = .ok (.getfield 194, 3)) (k : jJ l D R nL X (wM a cI cZ τ) (pc + 3) L (.int (τ 0 8) :: st)) : jJ l D R nL X (wM a cI cZ τ) pc L (.ref (a 0) :: st) :=
  jq_get hF (fun w h => List.mem_cons_of_mem _ (inM w h)) 0 rfl rfl 37 (by decide) (List.mem_cons_of_mem _ mF_M_194) rfl hd k
theorem Mp_M_194 (hF : jF D R nL X cc rM (cw :: jG) (jTys cI cZ) ret) {x : Int32} (hd : decode cc pc = .ok (.putfield 194, 3)) (k : jJ l D R nL X (wM a cI cZ (sU τ 0 8 x)) (pc + 3) L st) : jJ l D R nL X (wM a cI cZ τ) pc L (.int x :: .ref (a 0) :: st) :=
  jq_put hF _ (fun w h => List.mem_cons_of_mem _ (inM w h)) tyM tkM nmM 0 rfl rfl 37 (by decide) (List.mem_cons_of_mem _ mF_M_194) rfl rfl rfl rfl (Nat.le_of_ble_eq_true rfl) rfl hd k
theorem Mg_M_197 (hF : jF D R nL X cc rM (cw :: jG) (jTys cI cZ) ret) (hd : decode cc pc = .ok (.getfield 197, 3)) (k : jJ l D R nL X (wM a cI cZ τ) (pc + 3) L (.int (τ 0 9) :: st)) : jJ l D R nL X (wM a cI cZ τ) pc L (.ref (a 0) :: st) :=
  jq_get hF (fun w h => List.mem_cons_of_mem _ (inM w h)) 0 rfl rfl 38 (by decide) (List.mem_cons_of_mem _ mF_M_197) rfl hd k
theorem Mp_M_197 (hF : jF D R nL X cc rM (cw :: jG) (jTys cI cZ) ret) {x : Int32} (hd : decode cc pc = .ok (.putfield 197, 3)) (k : jJ l D R nL X (wM a cI cZ (sU τ 0 9 x)) (pc + 3) L st) : jJ l D R nL X (wM a cI cZ τ) pc L (.int x :: .ref (a 0) :: st) :=
  jq_put hF _ (fun w h => List.mem_cons_of_mem _ (inM w h)) tyM tkM nmM 0 rfl rfl 38 (by decide) (List.mem_cons_of_mem _ mF_M_197) rfl rfl rfl rfl (Nat.le_of_ble_eq_true rfl) rfl hd k
theorem Mg_M_203 (hF : jF D R nL X cc rM (cw :: jG) (jTys cI cZ) ret) (hd : decode cc pc = .ok (.getfield 203, 3)) (k : jJ l D R nL X (wM a cI cZ τ) (pc + 3) L (.int (τ 0 10) :: st)) : jJ l D R nL X (wM a cI cZ τ) pc L (.ref (a 0) :: st) :=
  jq_get hF (fun w h => List.mem_cons_of_mem _ (inM w h)) 0 rfl rfl 39 (by decide) (List.mem_cons_of_mem _ mF_M_203) rfl hd k
theorem Mp_M_203 (hF : jF D R nL X cc rM (cw :: jG) (jTys cI cZ) ret) {x : Int32} (hd : decode cc pc = .ok (.putfield 203, 3)) (k : jJ l D R nL X (wM a cI cZ (sU τ 0 10 x)) (pc + 3) L st) : jJ l D R nL X (wM a cI cZ τ) pc L (.int x :: .ref (a 0) :: st) :=
  jq_put hF _ (fun w h => List.mem_cons_of_mem _ (inM w h)) tyM tkM nmM 0 rfl rfl 39 (by decide) (List.mem_cons_of_mem _ mF_M_203) rfl rfl rfl rfl (Nat.le_of_ble_eq_true rfl) rfl hd k
theorem Mg_M_217 (hF : jF D R nL X cc rM (cw :: jG) (jTys cI cZ) ret) (hd : decode cc pc = .ok (.getfield 217, 3)) (k : jJ l D R nL X (wM a cI cZ τ) (pc + 3) L (.int (τ 0 11) :: st)) : jJ l D R nL X (wM a cI cZ τ) pc L (.ref (a 0) :: st) :=
  jq_get hF (fun w h => List.mem_cons_of_mem _ (inM w h)) 0 rfl rfl 40 (by decide) (List.mem_cons_of_mem _ mF_M_217) rfl hd k
theorem Mp_M_217 (hF : jF D R nL X cc rM (cw :: jG) (jTys cI cZ) ret) {x : Int32} (hd : decode cc pc = .ok (.putfield 217, 3)) (k : jJ l D R nL X (wM a cI cZ (sU τ 0 11 x)) (pc + 3) L st) : jJ l D R nL X (wM a cI cZ τ) pc L (.int x :: .ref (a 0) :: st) :=
  jq_put hF _ (fun w h => List.mem_cons_of_mem _ (inM w h)) tyM tkM nmM 0 rfl rfl 40 (by decide) (List.mem_cons_of_mem _ mF_M_217) rfl rfl rfl rfl (Nat.le_of_ble_eq_true rfl) rfl hd k
theorem Mg_M_234 (hF : jF D R nL X cc rM (cw :: jG) (jTys cI cZ) ret) (hd : decode cc pc = .ok (.getfield 234, 3)) (k : jJ l D R nL X (wM a cI cZ τ) (pc + 3) L (.int (τ 0 12) :: st)) : jJ l D R nL X (wM a cI cZ τ) pc L (.ref (a 0) :: st) :=
  jq_get hF (fun w h => List.mem_cons_of_mem _ (inM w h)) 0 rfl rfl 41 (by decide) (List.mem_cons_of_mem _ mF_M_234) rfl hd k
theorem Mp_M_234 (hF : jF D R nL X cc rM (cw :: jG) (jTys cI cZ) ret) {x : Int32} (hd : decode cc pc = .ok (.putfield 234, 3)) (k : jJ l D R nL X (wM a cI cZ (sU τ 0 12 x)) (pc + 3) L st) : jJ l D R nL X (wM a cI cZ τ) pc L (.int x :: .ref (a 0) :: st) :=
  jq_put hF _ (fun w h => List.mem_cons_of_mem _ (inM w h)) tyM tkM nmM 0 rfl rfl 41 (by decide) (List.mem_cons_of_mem _ mF_M_234) rfl rfl rfl rfl (Nat.le_of_ble_eq_true rfl) rfl hd k
end WM
