/-! ask -/
def cCarH (σ : jS) (f : Nat) (to : Int32) : jS := cCarry σ (nI f) to (σ 10 f) (-1)
def cCarR (σ : jS) (nw to : Int32) : jS := if ¬ σ 1 3 = -1 then cCarry σ (nI 6) to (σ 1 3) (cTagOut σ (σ 1 3).toNatClampNeg nw) else σ
def cCarV (σ : jS) (nw to : Int32) : Int32 := if ¬ σ 1 3 = -1 then (cCarry σ (nI 6) to (σ 1 3) (cTagOut σ (σ 1 3).toNatClampNeg nw)) 5 4 else nI 0
def cDirS (σ : jS) (i f t : Nat) : jS := if i = 0 then cCarH σ f (-1) else if i = 2 then cCarH σ f (nI t) else cCarH σ t (nI f)
def cDirB (σ : jS) (i f t : Nat) : Bool :=
  if i = 0 then cHasBit (cCarH σ f (-1) 5 4) (nI t) else if i = 2 then cHasBit (cCarH σ f (nI t) 5 4) (nI t) else cHasBit (cCarH σ t (nI f) 5 4) (nI f)
def cRouS (σ : jS) (i f t : Nat) : jS :=
  if i = 0 then cCarH σ f (-1) else if i = 2 then cCarH σ f (nI 6) else if i = 3 then cCarR σ (σ 11 t) (-1) else if i = 4 then cCarH σ t (nI 6)
  else if i = 5 then cCarR σ (σ 11 t) (nI t) else if i = 6 then cCarH σ t (nI 6) else cCarR σ (σ 11 f) (nI f)
def cRouB (σ : jS) (i f t : Nat) : Bool :=
  if i = 0 then cHasBit (cCarH σ f (-1) 5 4) (nI 6) else if i = 2 then cHasBit (cCarH σ f (nI 6) 5 4) (nI 6) else if i = 3 then cHasBit (cCarV σ (σ 11 t) (-1)) (nI t) else if i = 4 then cHasBit (cCarH σ t (nI 6) 5 4) (nI 6)
  else if i = 5 then cHasBit (cCarV σ (σ 11 t) (nI t)) (nI t) else if i = 6 then cHasBit (cCarH σ t (nI 6) 5 4) (nI 6) else cHasBit (cCarV σ (σ 11 f) (nI f)) (nI f)
def cAskRun (r : Bool) (f t : Nat) : Nat → Nat → jS → jS × Nat
  | 0, i, σ => (σ, i)
  | n + 1, i, σ => if (if r = false then cDirB σ i f t else cRouB σ i f t) = true then cAskRun r f t n (i + 1) (if r = false then cDirS σ i f t else cRouS σ i f t) else ((if r = false then cDirS σ i f t else cRouS σ i f t), i)
def cAskR (σ : jS) (f t : Nat) : Bool := !decide (σ 11 f = σ 11 t)
def cAskDue (r : Bool) : Nat := if r = false then 4 else 8
def cAskF (σ : jS) (f t : Nat) : jS × Nat := cAskRun (cAskR σ f t) f t (cAskDue (cAskR σ f t)) 0 (sU σ 5 5 (nI 0))
def cAskSt (σ : jS) (f t : Nat) (v : Int32) : jS := if (cAskF σ f t).2 = cAskDue (cAskR σ f t) then sU (cAskF σ f t).1 0 1 (nI 31 * v + nI t) else (cAskF σ f t).1
def cAskB (σ : jS) (f t : Int32) : Bool := cIsHost σ f && cIsHost σ t && (!cAskR σ f.toNatClampNeg t.toNatClampNeg || cHasRouter σ)
theorem ask_goD {r : Bool} {f t n i : Nat} {σ : jS} (hr : r = false) (h : cDirB σ i f t = true) : cAskRun r f t (n + 1) i σ = cAskRun r f t n (i + 1) (cDirS σ i f t) := by
  subst hr
  exact if_pos h
theorem ask_goR {r : Bool} {f t n i : Nat} {σ : jS} (hr : r = true) (h : cRouB σ i f t = true) : cAskRun r f t (n + 1) i σ = cAskRun r f t n (i + 1) (cRouS σ i f t) := by
  subst hr
  exact if_pos h
theorem ask_stopD {r : Bool} {f t n i : Nat} {σ : jS} (hr : r = false) (h : cDirB σ i f t = false) : cAskRun r f t (n + 1) i σ = (cDirS σ i f t, i) := by
  subst hr
  exact if_neg (show ¬ cDirB σ i f t = true by rw [h]; decide)
theorem ask_stopR {r : Bool} {f t n i : Nat} {σ : jS} (hr : r = true) (h : cRouB σ i f t = false) : cAskRun r f t (n + 1) i σ = (cRouS σ i f t, i) := by
  subst hr
  exact if_neg (show ¬ cRouB σ i f t = true by rw [h]; decide)
theorem cCarH_inv {σ : jS} (hI : cInv σ) {f : Nat} {to : Int32} (hf : f < 6) (ht : okQ 7 to) : cInv (cCarH σ f to) := cCarry_inv hI ⟨f, by omega, rfl⟩ ht (hI.hp hf) (Or.inl rfl)
theorem cCarR_inv {σ : jS} (hI : cInv σ) {nw to : Int32} (hn : okP 4 nw) (ht : okQ 7 to) : cInv (cCarR σ nw to) := by
  unfold cCarR
  by_cases h : ¬ σ 1 3 = -1
  · rw [if_pos h]; exact cCarry_inv hI ⟨6, by decide, rfl⟩ ht (hI.rt.resolve_left h) (cTagOut_ok hn)
  · rw [if_neg h]; exact hI
theorem okQn {f : Nat} (h : f < 7) : okQ 7 (nI f) := Or.inr ⟨f, h, rfl⟩
theorem cDirS_inv {σ : jS} (hI : cInv σ) {i f t : Nat} (hf : f < 6) (ht : t < 6) : cInv (cDirS σ i f t) := by
  unfold cDirS
  split
  · exact cCarH_inv hI hf (Or.inl rfl)
  · split
    · exact cCarH_inv hI hf (okQn (by omega))
    · exact cCarH_inv hI ht (okQn (by omega))
theorem cRouS_inv {σ : jS} (hI : cInv σ) {i f t : Nat} (hf : f < 6) (ht : t < 6) : cInv (cRouS σ i f t) := by
  unfold cRouS
  split
  · exact cCarH_inv hI hf (Or.inl rfl)
  · split
    · exact cCarH_inv hI hf (okQn (by omega))
    · split
      · exact cCarR_inv hI (hI.sn ht) (Or.inl rfl)
      · split
        · exact cCarH_inv hI ht (okQn (by omega))
        · split
          · exact cCarR_inv hI (hI.sn ht) (okQn (by omega))
          · split
            · exact cCarH_inv hI ht (okQn (by omega))
            · exact cCarR_inv hI (hI.sn hf) (okQn (by omega))
section JSW
variable {l : Launch} {D : va_G} {R : Room} {nL : Nat} {X : jX} {cc : ByteArray} {own : String} {Ts : List Cond} {tys : List (ClassId × FieldType)} {ret : Option FieldType} {wl : va_W} {pc : Nat} {L : List (Nat × Value)} {st : List Value}
theorem jq_lookup (hF : jF D R nL X cc own Ts tys ret) {dflt : Int} {ps : Array (Int × Int)} {len : Nat} {x : Int32} {off : Int} (tgt : Nat) (hd : decode cc pc = .ok (.lookupswitch dflt ps, len)) (hp : (ps.toList.zip (ps.toList.drop 1)).all (fun (a, next) => a.1 < next.1) = true) (ho : Op.lookupswitch.offset ps.toList dflt x.toInt = off) (ht : (pc : Int) + off = (tgt : Int)) (k : jJ l D R nL X wl tgt L st) : jJ l D R nL X wl pc L (.int x :: st) :=
  fun H locs ls hP hD hS hl => lv_lookup hF.1 hF.2.1 hd hp ho ht (k H locs ls hP hD hS hl)
theorem jq_tabIn (hF : jF D R nL X cc own Ts tys ret) {dflt lo hi : Int} {offs : Array Int} {len : Nat} {x : Int32} {off : Int} (tgt : Nat) (hd : decode cc pc = .ok (.tableswitch dflt lo hi offs, len)) (h1 : ¬ x.toInt < lo) (h2 : ¬ hi < x.toInt) (ho : offs[(x.toInt - lo).toNat]? = some off) (ht : (pc : Int) + off = (tgt : Int)) (k : jJ l D R nL X wl tgt L st) : jJ l D R nL X wl pc L (.int x :: st) :=
  fun H locs ls hP hD hS hl => lv_tableIn hF.1 hF.2.1 hd h1 h2 ho ht (k H locs ls hP hD hS hl)
theorem jq_tabOut (hF : jF D R nL X cc own Ts tys ret) {dflt lo hi : Int} {offs : Array Int} {len : Nat} {x : Int32} (tgt : Nat) (hd : decode cc pc = .ok (.tableswitch dflt lo hi offs, len)) (h : x.toInt < lo ∨ hi < x.toInt) (ht : (pc : Int) + dflt = (tgt : Int)) (k : jJ l D R nL X wl tgt L st) : jJ l D R nL X wl pc L (.int x :: st) :=
  fun H locs ls hP hD hS hl => lv_tableOut hF.1 hF.2.1 hd h ht (k H locs ls hP hD hS hl)
end JSW

set_option maxHeartbeats 4000000 in
set_option maxRecDepth 100000 in
theorem mN_directStep (l : Launch) (D : va_G) (a : Nat → Nat) (cI cZ : ClassId) (σ : jS) (i : Nat) (f : Nat) (t : Nat) (hi : i < 4) (hf : f < 6) (ht : t < 6) (hI : cInv σ) : jI l yN_directStep w_N_directStep (rmD 5) D (jTys cI cZ) [.ref (a 0), .int (nI i), .int (nI f), .int (nI t)] (wC a cI cZ σ) (wC a cI cZ (cDirS σ i f t)) (bI (cDirB σ i f t)) := by
  refine jI_of (ws' := jG) (bI_nw _) (by decide) rfl (Nat.le_of_ble_eq_true rfl) ?_
  intro X hF hk
  show jJ l D (rmD 5) 4 X (wC a cI cZ σ) 0 [(0, .ref (a 0)), (1, .int (nI i)), (2, .int (nI f)), (3, .int (nI t))] []
  refine jq_iload_n (pc := 0) hF 1 dN_directStep_0 rfl ?_
  have hc : i = 0 ∨ i = 1 ∨ i = 2 ∨ i = 3 := by omega
  rcases hc with rfl | rfl | rfl | rfl
  · refine jq_lookup (pc := 1) hF 28 dN_directStep_1 (by decide) (off := 27) (by decide) rfl ?_
    refine jq_aload_n (pc := 28) hF 0 dN_directStep_28 rfl ?_
    refine Cg_N_52 (pc := 29) hF dN_directStep_29 ?_
    refine jq_iload_n (pc := 32) hF 2 dN_directStep_32 rfl ?_
    refine jq_iconst (pc := 33) hF dN_directStep_33 ic_m1 ?_
    refine jq_cVI (pc := 34) hF (As := [.int (nI f), .int (-1)]) (rest := []) (mK_carryFromHost l D a cI cZ σ (f) (-1) hf (Or.inl rfl) hI) (jG_v mL_N_174 mI_K_carryFromHost mS_K_carryFromHost mZ_K mC_K_carryFromHost) rfl rfl rfl dd_K_carryFromHost ⟨Nat.le_of_ble_eq_true rfl, Nat.le_of_ble_eq_true rfl⟩ 5 rfl rfl rfl rfl (Nat.le_of_ble_eq_true rfl) dN_directStep_34 ?_
    refine jq_iload_n (pc := 37) hF 3 dN_directStep_37 rfl ?_
    refine jq_cSI (pc := 38) hF (As := [.int ((cCarry σ (nI (f)) (-1) (σ 10 (f)) (-1)) 5 4), .int (nI t)]) (rest := []) (mN_hasBit l D a cI cZ (cCarry σ (nI (f)) (-1) (σ 10 (f)) (-1)) ((cCarry σ (nI (f)) (-1) (σ 10 (f)) (-1)) 5 4) (nI (t)) ) (jG_st mL_N_195 mT_N_hasBit mZ_N mC_N_hasBit) rfl rfl rfl dd_N_hasBit ⟨Nat.le_of_ble_eq_true rfl, Nat.le_of_ble_eq_true rfl⟩ rfl rfl (Nat.le_of_ble_eq_true rfl) dN_directStep_38 ?_
    exact jq_at (hk 41 _ dN_directStep_41) (congrArg (wC a cI cZ) (by rfl)) rfl rfl (congrArg (fun z => [Value.int z]) (by rfl))
  · refine jq_lookup (pc := 1) hF 56 dN_directStep_1 (by decide) (off := 55) (by decide) rfl ?_
    refine jq_aload_n (pc := 56) hF 0 dN_directStep_56 rfl ?_
    refine Cg_N_52 (pc := 57) hF dN_directStep_57 ?_
    refine jq_iload_n (pc := 60) hF 3 dN_directStep_60 rfl ?_
    refine jq_iload_n (pc := 61) hF 2 dN_directStep_61 rfl ?_
    refine jq_cVI (pc := 62) hF (As := [.int (nI t), .int (nI f)]) (rest := []) (mK_carryFromHost l D a cI cZ σ (t) (nI (f)) ht (okQn (by omega)) hI) (jG_v mL_N_174 mI_K_carryFromHost mS_K_carryFromHost mZ_K mC_K_carryFromHost) rfl rfl rfl dd_K_carryFromHost ⟨Nat.le_of_ble_eq_true rfl, Nat.le_of_ble_eq_true rfl⟩ 5 rfl rfl rfl rfl (Nat.le_of_ble_eq_true rfl) dN_directStep_62 ?_
    refine jq_iload_n (pc := 65) hF 2 dN_directStep_65 rfl ?_
    refine jq_cSI (pc := 66) hF (As := [.int ((cCarry σ (nI (t)) (nI (f)) (σ 10 (t)) (-1)) 5 4), .int (nI f)]) (rest := []) (mN_hasBit l D a cI cZ (cCarry σ (nI (t)) (nI (f)) (σ 10 (t)) (-1)) ((cCarry σ (nI (t)) (nI (f)) (σ 10 (t)) (-1)) 5 4) (nI (f)) ) (jG_st mL_N_195 mT_N_hasBit mZ_N mC_N_hasBit) rfl rfl rfl dd_N_hasBit ⟨Nat.le_of_ble_eq_true rfl, Nat.le_of_ble_eq_true rfl⟩ rfl rfl (Nat.le_of_ble_eq_true rfl) dN_directStep_66 ?_
    exact jq_at (hk 69 _ dN_directStep_69) (congrArg (wC a cI cZ) (by rfl)) rfl rfl (congrArg (fun z => [Value.int z]) (by rfl))
  · refine jq_lookup (pc := 1) hF 42 dN_directStep_1 (by decide) (off := 41) (by decide) rfl ?_
    refine jq_aload_n (pc := 42) hF 0 dN_directStep_42 rfl ?_
    refine Cg_N_52 (pc := 43) hF dN_directStep_43 ?_
    refine jq_iload_n (pc := 46) hF 2 dN_directStep_46 rfl ?_
    refine jq_iload_n (pc := 47) hF 3 dN_directStep_47 rfl ?_
    refine jq_cVI (pc := 48) hF (As := [.int (nI f), .int (nI t)]) (rest := []) (mK_carryFromHost l D a cI cZ σ (f) (nI (t)) hf (okQn (by omega)) hI) (jG_v mL_N_174 mI_K_carryFromHost mS_K_carryFromHost mZ_K mC_K_carryFromHost) rfl rfl rfl dd_K_carryFromHost ⟨Nat.le_of_ble_eq_true rfl, Nat.le_of_ble_eq_true rfl⟩ 5 rfl rfl rfl rfl (Nat.le_of_ble_eq_true rfl) dN_directStep_48 ?_
    refine jq_iload_n (pc := 51) hF 3 dN_directStep_51 rfl ?_
    refine jq_cSI (pc := 52) hF (As := [.int ((cCarry σ (nI (f)) (nI (t)) (σ 10 (f)) (-1)) 5 4), .int (nI t)]) (rest := []) (mN_hasBit l D a cI cZ (cCarry σ (nI (f)) (nI (t)) (σ 10 (f)) (-1)) ((cCarry σ (nI (f)) (nI (t)) (σ 10 (f)) (-1)) 5 4) (nI (t)) ) (jG_st mL_N_195 mT_N_hasBit mZ_N mC_N_hasBit) rfl rfl rfl dd_N_hasBit ⟨Nat.le_of_ble_eq_true rfl, Nat.le_of_ble_eq_true rfl⟩ rfl rfl (Nat.le_of_ble_eq_true rfl) dN_directStep_52 ?_
    exact jq_at (hk 55 _ dN_directStep_55) (congrArg (wC a cI cZ) (by rfl)) rfl rfl (congrArg (fun z => [Value.int z]) (by rfl))
  · refine jq_lookup (pc := 1) hF 56 dN_directStep_1 (by decide) (off := 55) (by decide) rfl ?_
    refine jq_aload_n (pc := 56) hF 0 dN_directStep_56 rfl ?_
    refine Cg_N_52 (pc := 57) hF dN_directStep_57 ?_
    refine jq_iload_n (pc := 60) hF 3 dN_directStep_60 rfl ?_
    refine jq_iload_n (pc := 61) hF 2 dN_directStep_61 rfl ?_
    refine jq_cVI (pc := 62) hF (As := [.int (nI t), .int (nI f)]) (rest := []) (mK_carryFromHost l D a cI cZ σ (t) (nI (f)) ht (okQn (by omega)) hI) (jG_v mL_N_174 mI_K_carryFromHost mS_K_carryFromHost mZ_K mC_K_carryFromHost) rfl rfl rfl dd_K_carryFromHost ⟨Nat.le_of_ble_eq_true rfl, Nat.le_of_ble_eq_true rfl⟩ 5 rfl rfl rfl rfl (Nat.le_of_ble_eq_true rfl) dN_directStep_62 ?_
    refine jq_iload_n (pc := 65) hF 2 dN_directStep_65 rfl ?_
    refine jq_cSI (pc := 66) hF (As := [.int ((cCarry σ (nI (t)) (nI (f)) (σ 10 (t)) (-1)) 5 4), .int (nI f)]) (rest := []) (mN_hasBit l D a cI cZ (cCarry σ (nI (t)) (nI (f)) (σ 10 (t)) (-1)) ((cCarry σ (nI (t)) (nI (f)) (σ 10 (t)) (-1)) 5 4) (nI (f)) ) (jG_st mL_N_195 mT_N_hasBit mZ_N mC_N_hasBit) rfl rfl rfl dd_N_hasBit ⟨Nat.le_of_ble_eq_true rfl, Nat.le_of_ble_eq_true rfl⟩ rfl rfl (Nat.le_of_ble_eq_true rfl) dN_directStep_66 ?_
    exact jq_at (hk 69 _ dN_directStep_69) (congrArg (wC a cI cZ) (by rfl)) rfl rfl (congrArg (fun z => [Value.int z]) (by rfl))
set_option maxHeartbeats 4000000 in
set_option maxRecDepth 100000 in
theorem mN_routedStep (l : Launch) (D : va_G) (a : Nat → Nat) (cI cZ : ClassId) (σ : jS) (i : Nat) (f : Nat) (t : Nat) (hi : i < 8) (hf : f < 6) (ht : t < 6) (hI : cInv σ) : jI l yN_routedStep w_N_routedStep (rmD 5) D (jTys cI cZ) [.ref (a 0), .int (nI i), .int (nI f), .int (nI t)] (wC a cI cZ σ) (wC a cI cZ (cRouS σ i f t)) (bI (cRouB σ i f t)) := by
  refine jI_of (ws' := jG) (bI_nw _) (by decide) rfl (Nat.le_of_ble_eq_true rfl) ?_
  intro X hF hk
  show jJ l D (rmD 5) 4 X (wC a cI cZ σ) 0 [(0, .ref (a 0)), (1, .int (nI i)), (2, .int (nI f)), (3, .int (nI t))] []
  refine jq_iload_n (pc := 0) hF 1 dN_routedStep_0 rfl ?_
  have hc : i = 0 ∨ i = 1 ∨ i = 2 ∨ i = 3 ∨ i = 4 ∨ i = 5 ∨ i = 6 ∨ i = 7 := by omega
  rcases hc with rfl | rfl | rfl | rfl | rfl | rfl | rfl | rfl
  · refine jq_tabIn (pc := 1) hF 44 dN_routedStep_1 (by decide) (by decide) (off := 43) (by decide) rfl ?_
    refine jq_aload_n (pc := 44) hF 0 dN_routedStep_44 rfl ?_
    refine Cg_N_52 (pc := 45) hF dN_routedStep_45 ?_
    refine jq_iload_n (pc := 48) hF 2 dN_routedStep_48 rfl ?_
    refine jq_iconst (pc := 49) hF dN_routedStep_49 ic_m1 ?_
    refine jq_cVI (pc := 50) hF (As := [.int (nI f), .int (-1)]) (rest := []) (mK_carryFromHost l D a cI cZ σ (f) (-1) hf (Or.inl rfl) hI) (jG_v mL_N_174 mI_K_carryFromHost mS_K_carryFromHost mZ_K mC_K_carryFromHost) rfl rfl rfl dd_K_carryFromHost ⟨Nat.le_of_ble_eq_true rfl, Nat.le_of_ble_eq_true rfl⟩ 5 rfl rfl rfl rfl (Nat.le_of_ble_eq_true rfl) dN_routedStep_50 ?_
    refine jq_bipush (pc := 53) hF dN_routedStep_53 bi_6 ?_
    refine jq_cSI (pc := 55) hF (As := [.int ((cCarry σ (nI (f)) (-1) (σ 10 (f)) (-1)) 5 4), .int (nI 6)]) (rest := []) (mN_hasBit l D a cI cZ (cCarry σ (nI (f)) (-1) (σ 10 (f)) (-1)) ((cCarry σ (nI (f)) (-1) (σ 10 (f)) (-1)) 5 4) (nI (6)) ) (jG_st mL_N_195 mT_N_hasBit mZ_N mC_N_hasBit) rfl rfl rfl dd_N_hasBit ⟨Nat.le_of_ble_eq_true rfl, Nat.le_of_ble_eq_true rfl⟩ rfl rfl (Nat.le_of_ble_eq_true rfl) dN_routedStep_55 ?_
    exact jq_at (hk 58 _ dN_routedStep_58) (congrArg (wC a cI cZ) (by rfl)) rfl rfl (congrArg (fun z => [Value.int z]) (by rfl))
  · refine jq_tabIn (pc := 1) hF 135 dN_routedStep_1 (by decide) (by decide) (off := 134) (by decide) rfl ?_
    refine jq_aload_n (pc := 135) hF 0 dN_routedStep_135 rfl ?_
    refine Cg_N_52 (pc := 136) hF dN_routedStep_136 ?_
    refine jq_aload_n (pc := 139) hF 0 dN_routedStep_139 rfl ?_
    refine Cg_N_20 (pc := 140) hF dN_routedStep_140 ?_
    refine Cg_N_177 (pc := 143) hF dN_routedStep_143 ?_
    refine jq_iload_n (pc := 146) hF 2 dN_routedStep_146 rfl ?_
    refine Cl_11 (pc := 147) hF (by omega) dN_routedStep_147 ?_
    refine jq_iload_n (pc := 148) hF 2 dN_routedStep_148 rfl ?_
    refine jq_cVI (pc := 149) hF (As := [.int (σ 11 (f)), .int (nI f)]) (rest := []) (mK_carryFromRouter l D a cI cZ σ (σ 11 (f)) (nI (f)) (hI.sn hf) (okQn (by omega)) hI) (jG_v mL_N_199 mI_K_carryFromRouter mS_K_carryFromRouter mZ_K mC_K_carryFromRouter) rfl rfl rfl dd_K_carryFromRouter ⟨Nat.le_of_ble_eq_true rfl, Nat.le_of_ble_eq_true rfl⟩ 5 rfl rfl rfl rfl (Nat.le_of_ble_eq_true rfl) dN_routedStep_149 ?_
    refine jq_iload_n (pc := 152) hF 2 dN_routedStep_152 rfl ?_
    refine jq_cSI (pc := 153) hF (As := [.int (if ¬ σ 1 3 = -1 then (cCarry σ (nI 6) (nI (f)) (σ 1 3) (cTagOut σ (σ 1 3).toNatClampNeg (σ 11 (f)))) 5 4 else nI 0), .int (nI f)]) (rest := []) (mN_hasBit l D a cI cZ (if ¬ σ 1 3 = -1 then cCarry σ (nI 6) (nI (f)) (σ 1 3) (cTagOut σ (σ 1 3).toNatClampNeg (σ 11 (f))) else σ) (if ¬ σ 1 3 = -1 then (cCarry σ (nI 6) (nI (f)) (σ 1 3) (cTagOut σ (σ 1 3).toNatClampNeg (σ 11 (f)))) 5 4 else nI 0) (nI (f)) ) (jG_st mL_N_195 mT_N_hasBit mZ_N mC_N_hasBit) rfl rfl rfl dd_N_hasBit ⟨Nat.le_of_ble_eq_true rfl, Nat.le_of_ble_eq_true rfl⟩ rfl rfl (Nat.le_of_ble_eq_true rfl) dN_routedStep_153 ?_
    exact jq_at (hk 156 _ dN_routedStep_156) (congrArg (wC a cI cZ) (by rfl)) rfl rfl (congrArg (fun z => [Value.int z]) (by rfl))
  · refine jq_tabIn (pc := 1) hF 59 dN_routedStep_1 (by decide) (by decide) (off := 58) (by decide) rfl ?_
    refine jq_aload_n (pc := 59) hF 0 dN_routedStep_59 rfl ?_
    refine Cg_N_52 (pc := 60) hF dN_routedStep_60 ?_
    refine jq_iload_n (pc := 63) hF 2 dN_routedStep_63 rfl ?_
    refine jq_bipush (pc := 64) hF dN_routedStep_64 bi_6 ?_
    refine jq_cVI (pc := 66) hF (As := [.int (nI f), .int (nI 6)]) (rest := []) (mK_carryFromHost l D a cI cZ σ (f) (nI (6)) hf (okQn (by decide)) hI) (jG_v mL_N_174 mI_K_carryFromHost mS_K_carryFromHost mZ_K mC_K_carryFromHost) rfl rfl rfl dd_K_carryFromHost ⟨Nat.le_of_ble_eq_true rfl, Nat.le_of_ble_eq_true rfl⟩ 5 rfl rfl rfl rfl (Nat.le_of_ble_eq_true rfl) dN_routedStep_66 ?_
    refine jq_bipush (pc := 69) hF dN_routedStep_69 bi_6 ?_
    refine jq_cSI (pc := 71) hF (As := [.int ((cCarry σ (nI (f)) (nI (6)) (σ 10 (f)) (-1)) 5 4), .int (nI 6)]) (rest := []) (mN_hasBit l D a cI cZ (cCarry σ (nI (f)) (nI (6)) (σ 10 (f)) (-1)) ((cCarry σ (nI (f)) (nI (6)) (σ 10 (f)) (-1)) 5 4) (nI (6)) ) (jG_st mL_N_195 mT_N_hasBit mZ_N mC_N_hasBit) rfl rfl rfl dd_N_hasBit ⟨Nat.le_of_ble_eq_true rfl, Nat.le_of_ble_eq_true rfl⟩ rfl rfl (Nat.le_of_ble_eq_true rfl) dN_routedStep_71 ?_
    exact jq_at (hk 74 _ dN_routedStep_74) (congrArg (wC a cI cZ) (by rfl)) rfl rfl (congrArg (fun z => [Value.int z]) (by rfl))
  · refine jq_tabIn (pc := 1) hF 75 dN_routedStep_1 (by decide) (by decide) (off := 74) (by decide) rfl ?_
    refine jq_aload_n (pc := 75) hF 0 dN_routedStep_75 rfl ?_
    refine Cg_N_52 (pc := 76) hF dN_routedStep_76 ?_
    refine jq_aload_n (pc := 79) hF 0 dN_routedStep_79 rfl ?_
    refine Cg_N_20 (pc := 80) hF dN_routedStep_80 ?_
    refine Cg_N_177 (pc := 83) hF dN_routedStep_83 ?_
    refine jq_iload_n (pc := 86) hF 3 dN_routedStep_86 rfl ?_
    refine Cl_11 (pc := 87) hF (by omega) dN_routedStep_87 ?_
    refine jq_iconst (pc := 88) hF dN_routedStep_88 ic_m1 ?_
    refine jq_cVI (pc := 89) hF (As := [.int (σ 11 (t)), .int (-1)]) (rest := []) (mK_carryFromRouter l D a cI cZ σ (σ 11 (t)) (-1) (hI.sn ht) (Or.inl rfl) hI) (jG_v mL_N_199 mI_K_carryFromRouter mS_K_carryFromRouter mZ_K mC_K_carryFromRouter) rfl rfl rfl dd_K_carryFromRouter ⟨Nat.le_of_ble_eq_true rfl, Nat.le_of_ble_eq_true rfl⟩ 5 rfl rfl rfl rfl (Nat.le_of_ble_eq_true rfl) dN_routedStep_89 ?_
    refine jq_iload_n (pc := 92) hF 3 dN_routedStep_92 rfl ?_
    refine jq_cSI (pc := 93) hF (As := [.int (if ¬ σ 1 3 = -1 then (cCarry σ (nI 6) (-1) (σ 1 3) (cTagOut σ (σ 1 3).toNatClampNeg (σ 11 (t)))) 5 4 else nI 0), .int (nI t)]) (rest := []) (mN_hasBit l D a cI cZ (if ¬ σ 1 3 = -1 then cCarry σ (nI 6) (-1) (σ 1 3) (cTagOut σ (σ 1 3).toNatClampNeg (σ 11 (t))) else σ) (if ¬ σ 1 3 = -1 then (cCarry σ (nI 6) (-1) (σ 1 3) (cTagOut σ (σ 1 3).toNatClampNeg (σ 11 (t)))) 5 4 else nI 0) (nI (t)) ) (jG_st mL_N_195 mT_N_hasBit mZ_N mC_N_hasBit) rfl rfl rfl dd_N_hasBit ⟨Nat.le_of_ble_eq_true rfl, Nat.le_of_ble_eq_true rfl⟩ rfl rfl (Nat.le_of_ble_eq_true rfl) dN_routedStep_93 ?_
    exact jq_at (hk 96 _ dN_routedStep_96) (congrArg (wC a cI cZ) (by rfl)) rfl rfl (congrArg (fun z => [Value.int z]) (by rfl))
  · refine jq_tabIn (pc := 1) hF 97 dN_routedStep_1 (by decide) (by decide) (off := 96) (by decide) rfl ?_
    refine jq_aload_n (pc := 97) hF 0 dN_routedStep_97 rfl ?_
    refine Cg_N_52 (pc := 98) hF dN_routedStep_98 ?_
    refine jq_iload_n (pc := 101) hF 3 dN_routedStep_101 rfl ?_
    refine jq_bipush (pc := 102) hF dN_routedStep_102 bi_6 ?_
    refine jq_cVI (pc := 104) hF (As := [.int (nI t), .int (nI 6)]) (rest := []) (mK_carryFromHost l D a cI cZ σ (t) (nI (6)) ht (okQn (by decide)) hI) (jG_v mL_N_174 mI_K_carryFromHost mS_K_carryFromHost mZ_K mC_K_carryFromHost) rfl rfl rfl dd_K_carryFromHost ⟨Nat.le_of_ble_eq_true rfl, Nat.le_of_ble_eq_true rfl⟩ 5 rfl rfl rfl rfl (Nat.le_of_ble_eq_true rfl) dN_routedStep_104 ?_
    refine jq_bipush (pc := 107) hF dN_routedStep_107 bi_6 ?_
    refine jq_cSI (pc := 109) hF (As := [.int ((cCarry σ (nI (t)) (nI (6)) (σ 10 (t)) (-1)) 5 4), .int (nI 6)]) (rest := []) (mN_hasBit l D a cI cZ (cCarry σ (nI (t)) (nI (6)) (σ 10 (t)) (-1)) ((cCarry σ (nI (t)) (nI (6)) (σ 10 (t)) (-1)) 5 4) (nI (6)) ) (jG_st mL_N_195 mT_N_hasBit mZ_N mC_N_hasBit) rfl rfl rfl dd_N_hasBit ⟨Nat.le_of_ble_eq_true rfl, Nat.le_of_ble_eq_true rfl⟩ rfl rfl (Nat.le_of_ble_eq_true rfl) dN_routedStep_109 ?_
    exact jq_at (hk 112 _ dN_routedStep_112) (congrArg (wC a cI cZ) (by rfl)) rfl rfl (congrArg (fun z => [Value.int z]) (by rfl))
  · refine jq_tabIn (pc := 1) hF 113 dN_routedStep_1 (by decide) (by decide) (off := 112) (by decide) rfl ?_
    refine jq_aload_n (pc := 113) hF 0 dN_routedStep_113 rfl ?_
    refine Cg_N_52 (pc := 114) hF dN_routedStep_114 ?_
    refine jq_aload_n (pc := 117) hF 0 dN_routedStep_117 rfl ?_
    refine Cg_N_20 (pc := 118) hF dN_routedStep_118 ?_
    refine Cg_N_177 (pc := 121) hF dN_routedStep_121 ?_
    refine jq_iload_n (pc := 124) hF 3 dN_routedStep_124 rfl ?_
    refine Cl_11 (pc := 125) hF (by omega) dN_routedStep_125 ?_
    refine jq_iload_n (pc := 126) hF 3 dN_routedStep_126 rfl ?_
    refine jq_cVI (pc := 127) hF (As := [.int (σ 11 (t)), .int (nI t)]) (rest := []) (mK_carryFromRouter l D a cI cZ σ (σ 11 (t)) (nI (t)) (hI.sn ht) (okQn (by omega)) hI) (jG_v mL_N_199 mI_K_carryFromRouter mS_K_carryFromRouter mZ_K mC_K_carryFromRouter) rfl rfl rfl dd_K_carryFromRouter ⟨Nat.le_of_ble_eq_true rfl, Nat.le_of_ble_eq_true rfl⟩ 5 rfl rfl rfl rfl (Nat.le_of_ble_eq_true rfl) dN_routedStep_127 ?_
    refine jq_iload_n (pc := 130) hF 3 dN_routedStep_130 rfl ?_
    refine jq_cSI (pc := 131) hF (As := [.int (if ¬ σ 1 3 = -1 then (cCarry σ (nI 6) (nI (t)) (σ 1 3) (cTagOut σ (σ 1 3).toNatClampNeg (σ 11 (t)))) 5 4 else nI 0), .int (nI t)]) (rest := []) (mN_hasBit l D a cI cZ (if ¬ σ 1 3 = -1 then cCarry σ (nI 6) (nI (t)) (σ 1 3) (cTagOut σ (σ 1 3).toNatClampNeg (σ 11 (t))) else σ) (if ¬ σ 1 3 = -1 then (cCarry σ (nI 6) (nI (t)) (σ 1 3) (cTagOut σ (σ 1 3).toNatClampNeg (σ 11 (t)))) 5 4 else nI 0) (nI (t)) ) (jG_st mL_N_195 mT_N_hasBit mZ_N mC_N_hasBit) rfl rfl rfl dd_N_hasBit ⟨Nat.le_of_ble_eq_true rfl, Nat.le_of_ble_eq_true rfl⟩ rfl rfl (Nat.le_of_ble_eq_true rfl) dN_routedStep_131 ?_
    exact jq_at (hk 134 _ dN_routedStep_134) (congrArg (wC a cI cZ) (by rfl)) rfl rfl (congrArg (fun z => [Value.int z]) (by rfl))
  · refine jq_tabIn (pc := 1) hF 97 dN_routedStep_1 (by decide) (by decide) (off := 96) (by decide) rfl ?_
    refine jq_aload_n (pc := 97) hF 0 dN_routedStep_97 rfl ?_
    refine Cg_N_52 (pc := 98) hF dN_routedStep_98 ?_
    refine jq_iload_n (pc := 101) hF 3 dN_routedStep_101 rfl ?_
    refine jq_bipush (pc := 102) hF dN_routedStep_102 bi_6 ?_
    refine jq_cVI (pc := 104) hF (As := [.int (nI t), .int (nI 6)]) (rest := []) (mK_carryFromHost l D a cI cZ σ (t) (nI (6)) ht (okQn (by decide)) hI) (jG_v mL_N_174 mI_K_carryFromHost mS_K_carryFromHost mZ_K mC_K_carryFromHost) rfl rfl rfl dd_K_carryFromHost ⟨Nat.le_of_ble_eq_true rfl, Nat.le_of_ble_eq_true rfl⟩ 5 rfl rfl rfl rfl (Nat.le_of_ble_eq_true rfl) dN_routedStep_104 ?_
    refine jq_bipush (pc := 107) hF dN_routedStep_107 bi_6 ?_
    refine jq_cSI (pc := 109) hF (As := [.int ((cCarry σ (nI (t)) (nI (6)) (σ 10 (t)) (-1)) 5 4), .int (nI 6)]) (rest := []) (mN_hasBit l D a cI cZ (cCarry σ (nI (t)) (nI (6)) (σ 10 (t)) (-1)) ((cCarry σ (nI (t)) (nI (6)) (σ 10 (t)) (-1)) 5 4) (nI (6)) ) (jG_st mL_N_195 mT_N_hasBit mZ_N mC_N_hasBit) rfl rfl rfl dd_N_hasBit ⟨Nat.le_of_ble_eq_true rfl, Nat.le_of_ble_eq_true rfl⟩ rfl rfl (Nat.le_of_ble_eq_true rfl) dN_routedStep_109 ?_
    exact jq_at (hk 112 _ dN_routedStep_112) (congrArg (wC a cI cZ) (by rfl)) rfl rfl (congrArg (fun z => [Value.int z]) (by rfl))
  · refine jq_tabOut (pc := 1) hF 135 dN_routedStep_1 (by decide) rfl ?_
    refine jq_aload_n (pc := 135) hF 0 dN_routedStep_135 rfl ?_
    refine Cg_N_52 (pc := 136) hF dN_routedStep_136 ?_
    refine jq_aload_n (pc := 139) hF 0 dN_routedStep_139 rfl ?_
    refine Cg_N_20 (pc := 140) hF dN_routedStep_140 ?_
    refine Cg_N_177 (pc := 143) hF dN_routedStep_143 ?_
    refine jq_iload_n (pc := 146) hF 2 dN_routedStep_146 rfl ?_
    refine Cl_11 (pc := 147) hF (by omega) dN_routedStep_147 ?_
    refine jq_iload_n (pc := 148) hF 2 dN_routedStep_148 rfl ?_
    refine jq_cVI (pc := 149) hF (As := [.int (σ 11 (f)), .int (nI f)]) (rest := []) (mK_carryFromRouter l D a cI cZ σ (σ 11 (f)) (nI (f)) (hI.sn hf) (okQn (by omega)) hI) (jG_v mL_N_199 mI_K_carryFromRouter mS_K_carryFromRouter mZ_K mC_K_carryFromRouter) rfl rfl rfl dd_K_carryFromRouter ⟨Nat.le_of_ble_eq_true rfl, Nat.le_of_ble_eq_true rfl⟩ 5 rfl rfl rfl rfl (Nat.le_of_ble_eq_true rfl) dN_routedStep_149 ?_
    refine jq_iload_n (pc := 152) hF 2 dN_routedStep_152 rfl ?_
    refine jq_cSI (pc := 153) hF (As := [.int (if ¬ σ 1 3 = -1 then (cCarry σ (nI 6) (nI (f)) (σ 1 3) (cTagOut σ (σ 1 3).toNatClampNeg (σ 11 (f)))) 5 4 else nI 0), .int (nI f)]) (rest := []) (mN_hasBit l D a cI cZ (if ¬ σ 1 3 = -1 then cCarry σ (nI 6) (nI (f)) (σ 1 3) (cTagOut σ (σ 1 3).toNatClampNeg (σ 11 (f))) else σ) (if ¬ σ 1 3 = -1 then (cCarry σ (nI 6) (nI (f)) (σ 1 3) (cTagOut σ (σ 1 3).toNatClampNeg (σ 11 (f)))) 5 4 else nI 0) (nI (f)) ) (jG_st mL_N_195 mT_N_hasBit mZ_N mC_N_hasBit) rfl rfl rfl dd_N_hasBit ⟨Nat.le_of_ble_eq_true rfl, Nat.le_of_ble_eq_true rfl⟩ rfl rfl (Nat.le_of_ble_eq_true rfl) dN_routedStep_153 ?_
    exact jq_at (hk 156 _ dN_routedStep_156) (congrArg (wC a cI cZ) (by rfl)) rfl rfl (congrArg (fun z => [Value.int z]) (by rfl))
set_option maxHeartbeats 4000000 in
set_option maxRecDepth 100000 in
theorem mN_ask (l : Launch) (D : va_G) (a : Nat → Nat) (cI cZ : ClassId) (σ : jS) (f : Int32) (t : Int32) (v : Int32) (hI : cInv σ) : jI l yN_ask w_N_ask (rmD 6) D (jTys cI cZ) [.ref (a 0), .int (f), .int (t), .int (v)] (wC a cI cZ σ) (wC a cI cZ (if cAskB σ f t = true then cAskSt σ (f).toNatClampNeg (t).toNatClampNeg v else σ)) (if cAskB σ f t = true then nI (cAskF σ (f).toNatClampNeg (t).toNatClampNeg).2 else -1) := by
  refine jI_of (ws' := jG) rfl (by decide) rfl (Nat.le_of_ble_eq_true rfl) ?_
  intro X hF hk
  show jJ l D (rmD 6) 7 X (wC a cI cZ σ) 0 [(0, .ref (a 0)), (1, .int (f)), (2, .int (t)), (3, .int (v))] []
  refine jq_aload_n (pc := 0) hF 0 dN_ask_0 rfl ?_
  refine Cg_N_20 (pc := 1) hF dN_ask_1 ?_
  refine jq_iload_n (pc := 4) hF 1 dN_ask_4 rfl ?_
  refine jq_cVI (pc := 5) hF (As := [.int (f)]) (rest := []) (mP_isHost l D a cI cZ σ (f) ) (jG_v mL_N_165 mI_P_isHost mS_P_isHost mZ_P mC_P_isHost) rfl rfl rfl dd_P_isHost ⟨Nat.le_of_ble_eq_true rfl, Nat.le_of_ble_eq_true rfl⟩ 1 rfl rfl rfl rfl (Nat.le_of_ble_eq_true rfl) dN_ask_5 ?_
  refine jq_if_eqB (pc := 8) hF 22 dN_ask_8 rfl (fun h8 => ?_) (fun h8 => ?_)
  · refine jq_iconst (pc := 22) hF dN_ask_22 ic_m1 ?_
    exact jq_at (hk 23 _ dN_ask_23) (congrArg (wC a cI cZ) (by exact if_neg (by simp [cAskB, h8]))) rfl rfl (congrArg (fun z => [Value.int z]) (by exact if_neg (by simp [cAskB, h8])))
  · refine jq_aload_n (pc := 11) hF 0 dN_ask_11 rfl ?_
    refine Cg_N_20 (pc := 12) hF dN_ask_12 ?_
    refine jq_iload_n (pc := 15) hF 2 dN_ask_15 rfl ?_
    refine jq_cVI (pc := 16) hF (As := [.int (t)]) (rest := []) (mP_isHost l D a cI cZ σ (t) ) (jG_v mL_N_165 mI_P_isHost mS_P_isHost mZ_P mC_P_isHost) rfl rfl rfl dd_P_isHost ⟨Nat.le_of_ble_eq_true rfl, Nat.le_of_ble_eq_true rfl⟩ 1 rfl rfl rfl rfl (Nat.le_of_ble_eq_true rfl) dN_ask_16 ?_
    refine jq_if_neB (pc := 19) hF 24 dN_ask_19 rfl (fun h19 => ?_) (fun h19 => ?_)
    · obtain ⟨k, rfl, -, hkk⟩ := cIsHost_at hI h8
      obtain ⟨j, rfl, -, hjj⟩ := cIsHost_at hI h19
      have ck : (nI k).toNatClampNeg = k := nI_clamp (by omega)
      have cj : (nI j).toNatClampNeg = j := nI_clamp (by omega)
      refine jq_aload_n (pc := 24) hF 0 dN_ask_24 rfl ?_
      refine Cg_N_20 (pc := 25) hF dN_ask_25 ?_
      refine Cg_N_177 (pc := 28) hF dN_ask_28 ?_
      refine jq_iload_n (pc := 31) hF 1 dN_ask_31 rfl ?_
      refine Cl_11 (pc := 32) hF (by omega) dN_ask_32 ?_
      refine jq_aload_n (pc := 33) hF 0 dN_ask_33 rfl ?_
      refine Cg_N_20 (pc := 34) hF dN_ask_34 ?_
      refine Cg_N_177 (pc := 37) hF dN_ask_37 ?_
      refine jq_iload_n (pc := 40) hF 2 dN_ask_40 rfl ?_
      refine Cl_11 (pc := 41) hF (by omega) dN_ask_41 ?_
      have j50 : jJ l D (rmD 6) 7 X (wC a cI cZ σ) 50 [(0, .ref (a 0)), (1, .int (nI k)), (2, .int (nI j)), (3, .int (v))] [.int (bI (!decide (σ 11 (k) = σ 11 (j))))] := by
        refine jq_istore (pc := 50) hF [(4, .int (bI (!decide (σ 11 (k) = σ 11 (j))))), (0, .ref (a 0)), (1, .int (nI k)), (2, .int (nI j)), (3, .int (v))] dN_ask_50 (Nat.le_of_ble_eq_true rfl) rfl ?_
        refine jq_iload (pc := 52) hF 0 dN_ask_52 rfl ?_
        refine jq_if_eqB (pc := 54) hF 69 dN_ask_54 rfl (fun h54 => ?_) (fun h54 => ?_)
        · have hB : cAskB σ (nI k) (nI j) = true := by
            have hR : cAskR σ k j = (!decide (σ 11 (k) = σ 11 (j))) := rfl
            unfold cAskB
            rw [ck, cj, hR, h8, h19]
            first | (rw [h54]; rfl) | (rw [h64]; simp)
          refine jq_aload_n (pc := 69) hF 1 dN_ask_69 rfl ?_
          refine Cg_N_52 (pc := 70) hF dN_ask_70 ?_
          refine jq_cVV (pc := 73) hF (As := []) (rest := []) (mK_startCount l D a cI cZ σ  ) (jG_v mL_N_171 mI_K_startCount mS_K_startCount mZ_K mC_K_startCount) rfl rfl rfl dd_K_startCount ⟨Nat.le_of_ble_eq_true rfl, Nat.le_of_ble_eq_true rfl⟩ 5 rfl rfl rfl rfl (Nat.le_of_ble_eq_true rfl) dN_ask_73 ?_
          refine jq_iload (pc := 76) hF 0 dN_ask_76 rfl ?_
          have j87 : jJ l D (rmD 6) 7 X (wC a cI cZ (sU σ 5 5 (nI 0))) 87 [(4, .int (bI (!decide (σ 11 (k) = σ 11 (j))))), (0, .ref (a 0)), (1, .int (nI k)), (2, .int (nI j)), (3, .int (v))] [.int (nI (if (!decide (σ 11 (k) = σ 11 (j))) = false then 4 else 8))] := by
            obtain ⟨due, hdue⟩ : ∃ d, d = cAskDue (!decide (σ 11 (k) = σ 11 (j))) := ⟨_, rfl⟩
            have hd8 : due ≤ 8 := by rw [hdue]; unfold cAskDue; split <;> omega
            have hd4 : (!decide (σ 11 (k) = σ 11 (j))) = false → due ≤ 4 := by intro e; rw [hdue, e]; decide
            refine jq_top (nI (due)) (by rw [hdue]; rfl) ?_
            refine jq_istore (pc := 87) hF [(5, .int (nI due)), (4, .int (bI (!decide (σ 11 (k) = σ 11 (j))))), (0, .ref (a 0)), (1, .int (nI k)), (2, .int (nI j)), (3, .int (v))] dN_ask_87 (Nat.le_of_ble_eq_true rfl) rfl ?_
            refine jq_iconst (pc := 89) hF dN_ask_89 ic_0 ?_
            refine jq_istore (pc := 90) hF [(6, .int (nI 0)), (5, .int (nI due)), (4, .int (bI (!decide (σ 11 (k) = σ 11 (j))))), (0, .ref (a 0)), (1, .int (nI k)), (2, .int (nI j)), (3, .int (v))] dN_ask_90 (Nat.le_of_ble_eq_true rfl) rfl ?_
            have lp92 : ∀ i, i ≤ due → ∀ S : jS, cInv S ∧ cAskRun (!decide (σ 11 (k) = σ 11 (j))) k j (due - i) i S = cAskRun (!decide (σ 11 (k) = σ 11 (j))) k j due 0 (sU σ 5 5 (nI 0)) → jJ l D (rmD 6) 7 X (wC a cI cZ S) 92 [(6, .int (nI i)), (5, .int (nI due)), (4, .int (bI (!decide (σ 11 (k) = σ 11 (j))))), (0, .ref (a 0)), (1, .int (nI k)), (2, .int (nI j)), (3, .int (v))] [] := by
              refine loop_st (fun i hi ih S hS => ?_)
              refine jq_iload (pc := 92) hF 0 dN_ask_92 rfl ?_
              refine jq_iload (pc := 94) hF 1 dN_ask_94 rfl ?_
              refine jq_icmp_geN (pc := 96) hF 135 (by omega) (by omega) dN_ask_96 rfl (fun h96 => ?_) (fun h96 => ?_)
              · have eF : cAskF σ k j = (S, i) := by
                  show cAskRun (!decide (σ 11 (k) = σ 11 (j))) k j (cAskDue (!decide (σ 11 (k) = σ 11 (j)))) 0 (sU σ 5 5 (nI 0)) = _
                  rw [← hdue, ← hS.2]
                  rw [show due - i = 0 by omega]
                  rfl
                refine jq_iload (pc := 135) hF 0 dN_ask_135 rfl ?_
                refine jq_iload (pc := 137) hF 1 dN_ask_137 rfl ?_
                refine jq_icmp_neN (pc := 139) hF 152 (by omega) (by omega) dN_ask_139 rfl (fun h139 => ?_) (fun h139 => ?_)
                · refine jq_iload (pc := 152) hF 0 dN_ask_152 rfl ?_
                  exact jq_at (hk 154 _ dN_ask_154) (congrArg (wC a cI cZ) (by rw [if_pos hB, ck, cj]; unfold cAskSt; rw [eF]; dsimp only; exact if_neg (fun e => h139 (e.trans hdue.symm)))) rfl rfl (congrArg (fun z => [Value.int z]) (by rw [if_pos hB, ck, cj, eF]))
                · refine jq_aload_n (pc := 142) hF 3 dN_ask_142 rfl ?_
                  refine jq_bipush (pc := 143) hF dN_ask_143 bi_31 ?_
                  refine jq_iload_n (pc := 145) hF 6 dN_ask_145 rfl ?_
                  refine jq_imul (pc := 146) hF dN_ask_146 ?_
                  refine jq_iload_n (pc := 147) hF 5 dN_ask_147 rfl ?_
                  refine jq_iadd (pc := 148) hF dN_ask_148 ?_
                  refine Cp_N_56 (pc := 149) hF dN_ask_149 ?_
                  refine jq_iload (pc := 152) hF 0 dN_ask_152 rfl ?_
                  exact jq_at (hk 154 _ dN_ask_154) (congrArg (wC a cI cZ) (by rw [if_pos hB, ck, cj]; unfold cAskSt; rw [eF]; dsimp only; exact if_pos (h139.trans hdue))) rfl rfl (congrArg (fun z => [Value.int z]) (by rw [if_pos hB, ck, cj, eF]))
              · refine jq_iload (pc := 99) hF 2 dN_ask_99 rfl ?_
                refine jq_if_eqB (pc := 101) hF 118 dN_ask_101 rfl (fun h101 => ?_) (fun h101 => ?_)
                · refine jq_aload_n (pc := 118) hF 3 dN_ask_118 rfl ?_
                  refine jq_iload (pc := 119) hF 0 dN_ask_119 rfl ?_
                  refine jq_iload_n (pc := 121) hF 4 dN_ask_121 rfl ?_
                  refine jq_iload_n (pc := 122) hF 5 dN_ask_122 rfl ?_
                  refine jq_cVI (pc := 123) hF (As := [.int (nI i), .int (nI k), .int (nI j)]) (rest := []) (mN_directStep l D a cI cZ S (i) (k) (j) (by have := hd4 h101; omega) hkk hjj hS.1) (jG_v mL_N_183 mI_N_directStep mS_N_directStep mZ_N mC_N_directStep) rfl rfl rfl dd_N_directStep ⟨Nat.le_of_ble_eq_true rfl, Nat.le_of_ble_eq_true rfl⟩ 0 rfl rfl rfl rfl (Nat.le_of_ble_eq_true rfl) dN_ask_123 ?_
                  refine jq_if_eqB (pc := 126) hF 135 dN_ask_126 rfl (fun h126 => ?_) (fun h126 => ?_)
                  · have eF : cAskF σ k j = ((cDirS S (i) (k) (j)), i) := by
                      show cAskRun (!decide (σ 11 (k) = σ 11 (j))) k j (cAskDue (!decide (σ 11 (k) = σ 11 (j)))) 0 (sU σ 5 5 (nI 0)) = _
                      rw [← hdue, ← hS.2]
                      rw [show due - i = (due - (i + 1)) + 1 by omega]
                      exact ask_stopD h101 h126
                    refine jq_iload (pc := 135) hF 0 dN_ask_135 rfl ?_
                    refine jq_iload (pc := 137) hF 1 dN_ask_137 rfl ?_
                    refine jq_icmp_neN (pc := 139) hF 152 (by omega) (by omega) dN_ask_139 rfl (fun h139 => ?_) (fun h139 => ?_)
                    · refine jq_iload (pc := 152) hF 0 dN_ask_152 rfl ?_
                      exact jq_at (hk 154 _ dN_ask_154) (congrArg (wC a cI cZ) (by rw [if_pos hB, ck, cj]; unfold cAskSt; rw [eF]; dsimp only; exact if_neg (fun e => h139 (e.trans hdue.symm)))) rfl rfl (congrArg (fun z => [Value.int z]) (by rw [if_pos hB, ck, cj, eF]))
                    · refine jq_aload_n (pc := 142) hF 3 dN_ask_142 rfl ?_
                      refine jq_bipush (pc := 143) hF dN_ask_143 bi_31 ?_
                      refine jq_iload_n (pc := 145) hF 6 dN_ask_145 rfl ?_
                      refine jq_imul (pc := 146) hF dN_ask_146 ?_
                      refine jq_iload_n (pc := 147) hF 5 dN_ask_147 rfl ?_
                      refine jq_iadd (pc := 148) hF dN_ask_148 ?_
                      refine Cp_N_56 (pc := 149) hF dN_ask_149 ?_
                      refine jq_iload (pc := 152) hF 0 dN_ask_152 rfl ?_
                      exact jq_at (hk 154 _ dN_ask_154) (congrArg (wC a cI cZ) (by rw [if_pos hB, ck, cj]; unfold cAskSt; rw [eF]; dsimp only; exact if_pos (h139.trans hdue))) rfl rfl (congrArg (fun z => [Value.int z]) (by rw [if_pos hB, ck, cj, eF]))
                  · refine jq_iincN (pc := 129) hF 0 [(6, .int (nI (i + 1))), (5, .int (nI due)), (4, .int (bI (!decide (σ 11 (k) = σ 11 (j))))), (0, .ref (a 0)), (1, .int (nI k)), (2, .int (nI j)), (3, .int (v))] dN_ask_129 rfl (Nat.le_of_ble_eq_true rfl) rfl ?_
                    refine jq_goto (pc := 132) hF 92 dN_ask_132 rfl ?_
                    refine jq_sub [(6, .int (nI (i + 1))), (5, .int (nI due)), (4, .int (bI (!decide (σ 11 (k) = σ 11 (j))))), (0, .ref (a 0)), (1, .int (nI k)), (2, .int (nI j)), (3, .int (v))] [0, 1, 2, 3, 4, 5, 6] rfl ?_
                    exact jq_at (ih (by omega) ((cDirS S (i) (k) (j))) ⟨cDirS_inv hS.1 hkk hjj, by rw [← hS.2, show due - i = (due - (i + 1)) + 1 by omega]; exact (ask_goD h101 h126).symm⟩) rfl rfl rfl rfl
                · refine jq_aload_n (pc := 104) hF 3 dN_ask_104 rfl ?_
                  refine jq_iload (pc := 105) hF 0 dN_ask_105 rfl ?_
                  refine jq_iload_n (pc := 107) hF 4 dN_ask_107 rfl ?_
                  refine jq_iload_n (pc := 108) hF 5 dN_ask_108 rfl ?_
                  refine jq_cVI (pc := 109) hF (As := [.int (nI i), .int (nI k), .int (nI j)]) (rest := []) (mN_routedStep l D a cI cZ S (i) (k) (j) (by omega) hkk hjj hS.1) (jG_v mL_N_180 mI_N_routedStep mS_N_routedStep mZ_N mC_N_routedStep) rfl rfl rfl dd_N_routedStep ⟨Nat.le_of_ble_eq_true rfl, Nat.le_of_ble_eq_true rfl⟩ 0 rfl rfl rfl rfl (Nat.le_of_ble_eq_true rfl) dN_ask_109 ?_
                  refine jq_if_eqB (pc := 112) hF 135 dN_ask_112 rfl (fun h112 => ?_) (fun h112 => ?_)
                  · have eF : cAskF σ k j = ((cRouS S (i) (k) (j)), i) := by
                      show cAskRun (!decide (σ 11 (k) = σ 11 (j))) k j (cAskDue (!decide (σ 11 (k) = σ 11 (j)))) 0 (sU σ 5 5 (nI 0)) = _
                      rw [← hdue, ← hS.2]
                      rw [show due - i = (due - (i + 1)) + 1 by omega]
                      exact ask_stopR h101 h112
                    refine jq_iload (pc := 135) hF 0 dN_ask_135 rfl ?_
                    refine jq_iload (pc := 137) hF 1 dN_ask_137 rfl ?_
                    refine jq_icmp_neN (pc := 139) hF 152 (by omega) (by omega) dN_ask_139 rfl (fun h139 => ?_) (fun h139 => ?_)
                    · refine jq_iload (pc := 152) hF 0 dN_ask_152 rfl ?_
                      exact jq_at (hk 154 _ dN_ask_154) (congrArg (wC a cI cZ) (by rw [if_pos hB, ck, cj]; unfold cAskSt; rw [eF]; dsimp only; exact if_neg (fun e => h139 (e.trans hdue.symm)))) rfl rfl (congrArg (fun z => [Value.int z]) (by rw [if_pos hB, ck, cj, eF]))
                    · refine jq_aload_n (pc := 142) hF 3 dN_ask_142 rfl ?_
                      refine jq_bipush (pc := 143) hF dN_ask_143 bi_31 ?_
                      refine jq_iload_n (pc := 145) hF 6 dN_ask_145 rfl ?_
                      refine jq_imul (pc := 146) hF dN_ask_146 ?_
                      refine jq_iload_n (pc := 147) hF 5 dN_ask_147 rfl ?_
                      refine jq_iadd (pc := 148) hF dN_ask_148 ?_
                      refine Cp_N_56 (pc := 149) hF dN_ask_149 ?_
                      refine jq_iload (pc := 152) hF 0 dN_ask_152 rfl ?_
                      exact jq_at (hk 154 _ dN_ask_154) (congrArg (wC a cI cZ) (by rw [if_pos hB, ck, cj]; unfold cAskSt; rw [eF]; dsimp only; exact if_pos (h139.trans hdue))) rfl rfl (congrArg (fun z => [Value.int z]) (by rw [if_pos hB, ck, cj, eF]))
                  · refine jq_goto (pc := 115) hF 129 dN_ask_115 rfl ?_
                    refine jq_iincN (pc := 129) hF 0 [(6, .int (nI (i + 1))), (5, .int (nI due)), (4, .int (bI (!decide (σ 11 (k) = σ 11 (j))))), (0, .ref (a 0)), (1, .int (nI k)), (2, .int (nI j)), (3, .int (v))] dN_ask_129 rfl (Nat.le_of_ble_eq_true rfl) rfl ?_
                    refine jq_goto (pc := 132) hF 92 dN_ask_132 rfl ?_
                    refine jq_sub [(6, .int (nI (i + 1))), (5, .int (nI due)), (4, .int (bI (!decide (σ 11 (k) = σ 11 (j))))), (0, .ref (a 0)), (1, .int (nI k)), (2, .int (nI j)), (3, .int (v))] [0, 1, 2, 3, 4, 5, 6] rfl ?_
                    exact jq_at (ih (by omega) ((cRouS S (i) (k) (j))) ⟨cRouS_inv hS.1 hkk hjj, by rw [← hS.2, show due - i = (due - (i + 1)) + 1 by omega]; exact (ask_goR h101 h112).symm⟩) rfl rfl rfl rfl
            exact jq_at (lp92 0 (by omega) (sU σ 5 5 (nI 0)) ⟨hI.u (by decide), rfl⟩) rfl rfl rfl rfl
          refine jq_if_eqB (pc := 78) hF 86 dN_ask_78 rfl (fun h78 => ?_) (fun h78 => ?_)
          · refine jq_iconst (pc := 86) hF dN_ask_86 ic_4 ?_
            exact jq_at j87 rfl rfl rfl (by rw [if_pos h78])
          · refine jq_bipush (pc := 81) hF dN_ask_81 bi_8 ?_
            refine jq_goto (pc := 83) hF 87 dN_ask_83 rfl ?_
            exact jq_at j87 rfl rfl rfl (by rw [if_neg (show ¬ ((!decide (σ 11 (k) = σ 11 (j))) = false) by simp [h78])])
        · refine jq_aload_n (pc := 57) hF 1 dN_ask_57 rfl ?_
          refine Cg_N_20 (pc := 58) hF dN_ask_58 ?_
          refine jq_cVI (pc := 61) hF (As := []) (rest := []) (mP_hasRouter l D a cI cZ σ  ) (jG_v mL_N_93 mI_P_hasRouter mS_P_hasRouter mZ_P mC_P_hasRouter) rfl rfl rfl dd_P_hasRouter ⟨Nat.le_of_ble_eq_true rfl, Nat.le_of_ble_eq_true rfl⟩ 1 rfl rfl rfl rfl (Nat.le_of_ble_eq_true rfl) dN_ask_61 ?_
          refine jq_if_neB (pc := 64) hF 69 dN_ask_64 rfl (fun h64 => ?_) (fun h64 => ?_)
          · have hB : cAskB σ (nI k) (nI j) = true := by
              have hR : cAskR σ k j = (!decide (σ 11 (k) = σ 11 (j))) := rfl
              unfold cAskB
              rw [ck, cj, hR, h8, h19]
              first | (rw [h54]; rfl) | (rw [h64]; simp)
            refine jq_aload_n (pc := 69) hF 1 dN_ask_69 rfl ?_
            refine Cg_N_52 (pc := 70) hF dN_ask_70 ?_
            refine jq_cVV (pc := 73) hF (As := []) (rest := []) (mK_startCount l D a cI cZ σ  ) (jG_v mL_N_171 mI_K_startCount mS_K_startCount mZ_K mC_K_startCount) rfl rfl rfl dd_K_startCount ⟨Nat.le_of_ble_eq_true rfl, Nat.le_of_ble_eq_true rfl⟩ 5 rfl rfl rfl rfl (Nat.le_of_ble_eq_true rfl) dN_ask_73 ?_
            refine jq_iload (pc := 76) hF 0 dN_ask_76 rfl ?_
            have j87 : jJ l D (rmD 6) 7 X (wC a cI cZ (sU σ 5 5 (nI 0))) 87 [(4, .int (bI (!decide (σ 11 (k) = σ 11 (j))))), (0, .ref (a 0)), (1, .int (nI k)), (2, .int (nI j)), (3, .int (v))] [.int (nI (if (!decide (σ 11 (k) = σ 11 (j))) = false then 4 else 8))] := by
              obtain ⟨due, hdue⟩ : ∃ d, d = cAskDue (!decide (σ 11 (k) = σ 11 (j))) := ⟨_, rfl⟩
              have hd8 : due ≤ 8 := by rw [hdue]; unfold cAskDue; split <;> omega
              have hd4 : (!decide (σ 11 (k) = σ 11 (j))) = false → due ≤ 4 := by intro e; rw [hdue, e]; decide
              refine jq_top (nI (due)) (by rw [hdue]; rfl) ?_
              refine jq_istore (pc := 87) hF [(5, .int (nI due)), (4, .int (bI (!decide (σ 11 (k) = σ 11 (j))))), (0, .ref (a 0)), (1, .int (nI k)), (2, .int (nI j)), (3, .int (v))] dN_ask_87 (Nat.le_of_ble_eq_true rfl) rfl ?_
              refine jq_iconst (pc := 89) hF dN_ask_89 ic_0 ?_
              refine jq_istore (pc := 90) hF [(6, .int (nI 0)), (5, .int (nI due)), (4, .int (bI (!decide (σ 11 (k) = σ 11 (j))))), (0, .ref (a 0)), (1, .int (nI k)), (2, .int (nI j)), (3, .int (v))] dN_ask_90 (Nat.le_of_ble_eq_true rfl) rfl ?_
              have lp92 : ∀ i, i ≤ due → ∀ S : jS, cInv S ∧ cAskRun (!decide (σ 11 (k) = σ 11 (j))) k j (due - i) i S = cAskRun (!decide (σ 11 (k) = σ 11 (j))) k j due 0 (sU σ 5 5 (nI 0)) → jJ l D (rmD 6) 7 X (wC a cI cZ S) 92 [(6, .int (nI i)), (5, .int (nI due)), (4, .int (bI (!decide (σ 11 (k) = σ 11 (j))))), (0, .ref (a 0)), (1, .int (nI k)), (2, .int (nI j)), (3, .int (v))] [] := by
                refine loop_st (fun i hi ih S hS => ?_)
                refine jq_iload (pc := 92) hF 0 dN_ask_92 rfl ?_
                refine jq_iload (pc := 94) hF 1 dN_ask_94 rfl ?_
                refine jq_icmp_geN (pc := 96) hF 135 (by omega) (by omega) dN_ask_96 rfl (fun h96 => ?_) (fun h96 => ?_)
                · have eF : cAskF σ k j = (S, i) := by
                    show cAskRun (!decide (σ 11 (k) = σ 11 (j))) k j (cAskDue (!decide (σ 11 (k) = σ 11 (j)))) 0 (sU σ 5 5 (nI 0)) = _
                    rw [← hdue, ← hS.2]
                    rw [show due - i = 0 by omega]
                    rfl
                  refine jq_iload (pc := 135) hF 0 dN_ask_135 rfl ?_
                  refine jq_iload (pc := 137) hF 1 dN_ask_137 rfl ?_
                  refine jq_icmp_neN (pc := 139) hF 152 (by omega) (by omega) dN_ask_139 rfl (fun h139 => ?_) (fun h139 => ?_)
                  · refine jq_iload (pc := 152) hF 0 dN_ask_152 rfl ?_
                    exact jq_at (hk 154 _ dN_ask_154) (congrArg (wC a cI cZ) (by rw [if_pos hB, ck, cj]; unfold cAskSt; rw [eF]; dsimp only; exact if_neg (fun e => h139 (e.trans hdue.symm)))) rfl rfl (congrArg (fun z => [Value.int z]) (by rw [if_pos hB, ck, cj, eF]))
                  · refine jq_aload_n (pc := 142) hF 3 dN_ask_142 rfl ?_
                    refine jq_bipush (pc := 143) hF dN_ask_143 bi_31 ?_
                    refine jq_iload_n (pc := 145) hF 6 dN_ask_145 rfl ?_
                    refine jq_imul (pc := 146) hF dN_ask_146 ?_
                    refine jq_iload_n (pc := 147) hF 5 dN_ask_147 rfl ?_
                    refine jq_iadd (pc := 148) hF dN_ask_148 ?_
                    refine Cp_N_56 (pc := 149) hF dN_ask_149 ?_
                    refine jq_iload (pc := 152) hF 0 dN_ask_152 rfl ?_
                    exact jq_at (hk 154 _ dN_ask_154) (congrArg (wC a cI cZ) (by rw [if_pos hB, ck, cj]; unfold cAskSt; rw [eF]; dsimp only; exact if_pos (h139.trans hdue))) rfl rfl (congrArg (fun z => [Value.int z]) (by rw [if_pos hB, ck, cj, eF]))
                · refine jq_iload (pc := 99) hF 2 dN_ask_99 rfl ?_
                  refine jq_if_eqB (pc := 101) hF 118 dN_ask_101 rfl (fun h101 => ?_) (fun h101 => ?_)
                  · refine jq_aload_n (pc := 118) hF 3 dN_ask_118 rfl ?_
                    refine jq_iload (pc := 119) hF 0 dN_ask_119 rfl ?_
                    refine jq_iload_n (pc := 121) hF 4 dN_ask_121 rfl ?_
                    refine jq_iload_n (pc := 122) hF 5 dN_ask_122 rfl ?_
                    refine jq_cVI (pc := 123) hF (As := [.int (nI i), .int (nI k), .int (nI j)]) (rest := []) (mN_directStep l D a cI cZ S (i) (k) (j) (by have := hd4 h101; omega) hkk hjj hS.1) (jG_v mL_N_183 mI_N_directStep mS_N_directStep mZ_N mC_N_directStep) rfl rfl rfl dd_N_directStep ⟨Nat.le_of_ble_eq_true rfl, Nat.le_of_ble_eq_true rfl⟩ 0 rfl rfl rfl rfl (Nat.le_of_ble_eq_true rfl) dN_ask_123 ?_
                    refine jq_if_eqB (pc := 126) hF 135 dN_ask_126 rfl (fun h126 => ?_) (fun h126 => ?_)
                    · have eF : cAskF σ k j = ((cDirS S (i) (k) (j)), i) := by
                        show cAskRun (!decide (σ 11 (k) = σ 11 (j))) k j (cAskDue (!decide (σ 11 (k) = σ 11 (j)))) 0 (sU σ 5 5 (nI 0)) = _
                        rw [← hdue, ← hS.2]
                        rw [show due - i = (due - (i + 1)) + 1 by omega]
                        exact ask_stopD h101 h126
                      refine jq_iload (pc := 135) hF 0 dN_ask_135 rfl ?_
                      refine jq_iload (pc := 137) hF 1 dN_ask_137 rfl ?_
                      refine jq_icmp_neN (pc := 139) hF 152 (by omega) (by omega) dN_ask_139 rfl (fun h139 => ?_) (fun h139 => ?_)
                      · refine jq_iload (pc := 152) hF 0 dN_ask_152 rfl ?_
                        exact jq_at (hk 154 _ dN_ask_154) (congrArg (wC a cI cZ) (by rw [if_pos hB, ck, cj]; unfold cAskSt; rw [eF]; dsimp only; exact if_neg (fun e => h139 (e.trans hdue.symm)))) rfl rfl (congrArg (fun z => [Value.int z]) (by rw [if_pos hB, ck, cj, eF]))
                      · refine jq_aload_n (pc := 142) hF 3 dN_ask_142 rfl ?_
                        refine jq_bipush (pc := 143) hF dN_ask_143 bi_31 ?_
                        refine jq_iload_n (pc := 145) hF 6 dN_ask_145 rfl ?_
                        refine jq_imul (pc := 146) hF dN_ask_146 ?_
                        refine jq_iload_n (pc := 147) hF 5 dN_ask_147 rfl ?_
                        refine jq_iadd (pc := 148) hF dN_ask_148 ?_
                        refine Cp_N_56 (pc := 149) hF dN_ask_149 ?_
                        refine jq_iload (pc := 152) hF 0 dN_ask_152 rfl ?_
                        exact jq_at (hk 154 _ dN_ask_154) (congrArg (wC a cI cZ) (by rw [if_pos hB, ck, cj]; unfold cAskSt; rw [eF]; dsimp only; exact if_pos (h139.trans hdue))) rfl rfl (congrArg (fun z => [Value.int z]) (by rw [if_pos hB, ck, cj, eF]))
                    · refine jq_iincN (pc := 129) hF 0 [(6, .int (nI (i + 1))), (5, .int (nI due)), (4, .int (bI (!decide (σ 11 (k) = σ 11 (j))))), (0, .ref (a 0)), (1, .int (nI k)), (2, .int (nI j)), (3, .int (v))] dN_ask_129 rfl (Nat.le_of_ble_eq_true rfl) rfl ?_
                      refine jq_goto (pc := 132) hF 92 dN_ask_132 rfl ?_
                      refine jq_sub [(6, .int (nI (i + 1))), (5, .int (nI due)), (4, .int (bI (!decide (σ 11 (k) = σ 11 (j))))), (0, .ref (a 0)), (1, .int (nI k)), (2, .int (nI j)), (3, .int (v))] [0, 1, 2, 3, 4, 5, 6] rfl ?_
                      exact jq_at (ih (by omega) ((cDirS S (i) (k) (j))) ⟨cDirS_inv hS.1 hkk hjj, by rw [← hS.2, show due - i = (due - (i + 1)) + 1 by omega]; exact (ask_goD h101 h126).symm⟩) rfl rfl rfl rfl
                  · refine jq_aload_n (pc := 104) hF 3 dN_ask_104 rfl ?_
                    refine jq_iload (pc := 105) hF 0 dN_ask_105 rfl ?_
                    refine jq_iload_n (pc := 107) hF 4 dN_ask_107 rfl ?_
                    refine jq_iload_n (pc := 108) hF 5 dN_ask_108 rfl ?_
                    refine jq_cVI (pc := 109) hF (As := [.int (nI i), .int (nI k), .int (nI j)]) (rest := []) (mN_routedStep l D a cI cZ S (i) (k) (j) (by omega) hkk hjj hS.1) (jG_v mL_N_180 mI_N_routedStep mS_N_routedStep mZ_N mC_N_routedStep) rfl rfl rfl dd_N_routedStep ⟨Nat.le_of_ble_eq_true rfl, Nat.le_of_ble_eq_true rfl⟩ 0 rfl rfl rfl rfl (Nat.le_of_ble_eq_true rfl) dN_ask_109 ?_
                    refine jq_if_eqB (pc := 112) hF 135 dN_ask_112 rfl (fun h112 => ?_) (fun h112 => ?_)
                    · have eF : cAskF σ k j = ((cRouS S (i) (k) (j)), i) := by
                        show cAskRun (!decide (σ 11 (k) = σ 11 (j))) k j (cAskDue (!decide (σ 11 (k) = σ 11 (j)))) 0 (sU σ 5 5 (nI 0)) = _
                        rw [← hdue, ← hS.2]
                        rw [show due - i = (due - (i + 1)) + 1 by omega]
                        exact ask_stopR h101 h112
                      refine jq_iload (pc := 135) hF 0 dN_ask_135 rfl ?_
                      refine jq_iload (pc := 137) hF 1 dN_ask_137 rfl ?_
                      refine jq_icmp_neN (pc := 139) hF 152 (by omega) (by omega) dN_ask_139 rfl (fun h139 => ?_) (fun h139 => ?_)
                      · refine jq_iload (pc := 152) hF 0 dN_ask_152 rfl ?_
                        exact jq_at (hk 154 _ dN_ask_154) (congrArg (wC a cI cZ) (by rw [if_pos hB, ck, cj]; unfold cAskSt; rw [eF]; dsimp only; exact if_neg (fun e => h139 (e.trans hdue.symm)))) rfl rfl (congrArg (fun z => [Value.int z]) (by rw [if_pos hB, ck, cj, eF]))
                      · refine jq_aload_n (pc := 142) hF 3 dN_ask_142 rfl ?_
                        refine jq_bipush (pc := 143) hF dN_ask_143 bi_31 ?_
                        refine jq_iload_n (pc := 145) hF 6 dN_ask_145 rfl ?_
                        refine jq_imul (pc := 146) hF dN_ask_146 ?_
                        refine jq_iload_n (pc := 147) hF 5 dN_ask_147 rfl ?_
                        refine jq_iadd (pc := 148) hF dN_ask_148 ?_
                        refine Cp_N_56 (pc := 149) hF dN_ask_149 ?_
                        refine jq_iload (pc := 152) hF 0 dN_ask_152 rfl ?_
                        exact jq_at (hk 154 _ dN_ask_154) (congrArg (wC a cI cZ) (by rw [if_pos hB, ck, cj]; unfold cAskSt; rw [eF]; dsimp only; exact if_pos (h139.trans hdue))) rfl rfl (congrArg (fun z => [Value.int z]) (by rw [if_pos hB, ck, cj, eF]))
                    · refine jq_goto (pc := 115) hF 129 dN_ask_115 rfl ?_
                      refine jq_iincN (pc := 129) hF 0 [(6, .int (nI (i + 1))), (5, .int (nI due)), (4, .int (bI (!decide (σ 11 (k) = σ 11 (j))))), (0, .ref (a 0)), (1, .int (nI k)), (2, .int (nI j)), (3, .int (v))] dN_ask_129 rfl (Nat.le_of_ble_eq_true rfl) rfl ?_
                      refine jq_goto (pc := 132) hF 92 dN_ask_132 rfl ?_
                      refine jq_sub [(6, .int (nI (i + 1))), (5, .int (nI due)), (4, .int (bI (!decide (σ 11 (k) = σ 11 (j))))), (0, .ref (a 0)), (1, .int (nI k)), (2, .int (nI j)), (3, .int (v))] [0, 1, 2, 3, 4, 5, 6] rfl ?_
                      exact jq_at (ih (by omega) ((cRouS S (i) (k) (j))) ⟨cRouS_inv hS.1 hkk hjj, by rw [← hS.2, show due - i = (due - (i + 1)) + 1 by omega]; exact (ask_goR h101 h112).symm⟩) rfl rfl rfl rfl
              exact jq_at (lp92 0 (by omega) (sU σ 5 5 (nI 0)) ⟨hI.u (by decide), rfl⟩) rfl rfl rfl rfl
            refine jq_if_eqB (pc := 78) hF 86 dN_ask_78 rfl (fun h78 => ?_) (fun h78 => ?_)
            · refine jq_iconst (pc := 86) hF dN_ask_86 ic_4 ?_
              exact jq_at j87 rfl rfl rfl (by rw [if_pos h78])
            · refine jq_bipush (pc := 81) hF dN_ask_81 bi_8 ?_
              refine jq_goto (pc := 83) hF 87 dN_ask_83 rfl ?_
              exact jq_at j87 rfl rfl rfl (by rw [if_neg (show ¬ ((!decide (σ 11 (k) = σ 11 (j))) = false) by simp [h78])])
          · refine jq_iconst (pc := 67) hF dN_ask_67 ic_m1 ?_
            exact jq_at (hk 68 _ dN_ask_68) (congrArg (wC a cI cZ) (by exact if_neg (by have hR : cAskR σ k j = true := h54; simp [cAskB, ck, cj, hR, h64]))) rfl rfl (congrArg (fun z => [Value.int z]) (by exact if_neg (by have hR : cAskR σ k j = true := h54; simp [cAskB, ck, cj, hR, h64])))
      refine jq_icmp_eq (pc := 42) hF 49 dN_ask_42 rfl (fun h42 => ?_) (fun h42 => ?_)
      · refine jq_iconst (pc := 49) hF dN_ask_49 ic_0 ?_
        exact jq_at j50 rfl rfl rfl (by rw [decide_eq_true h42]; rfl)
      · refine jq_iconst (pc := 45) hF dN_ask_45 ic_1 ?_
        refine jq_goto (pc := 46) hF 50 dN_ask_46 rfl ?_
        exact jq_at j50 rfl rfl rfl (by rw [decide_eq_false h42]; rfl)
    · refine jq_iconst (pc := 22) hF dN_ask_22 ic_m1 ?_
      exact jq_at (hk 23 _ dN_ask_23) (congrArg (wC a cI cZ) (by exact if_neg (by simp [cAskB, h8, h19]))) rfl rfl (congrArg (fun z => [Value.int z]) (by exact if_neg (by simp [cAskB, h8, h19])))
