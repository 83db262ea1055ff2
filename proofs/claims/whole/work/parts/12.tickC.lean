/-! walks by program (wip/whole/gen/specC3.py) -/
theorem cInv.u {σ : jS} (hI : cInv σ) {k i : Nat} {v : Int32} (hk : ∀ j ∈ [1, 7, 10, 11, 12, 13, 15, 24, 33, 34], j ∉ [k]) : cInv (sU σ k i v) := hI.of_fr (ks := [k]) (fr.rf.u (List.mem_singleton.mpr rfl) i v) hk
theorem cInv.u24 {σ : jS} (hI : cInv σ) {i : Nat} {v : Int32} (hv : okQ 24 v) : cInv (sU σ 24 i v) := by
  have e24 : ∀ j, sU σ 24 i v 24 j = if j = i then v else σ 24 j := fun j => sU_eq σ 24 i v j
  refine ⟨hI.1, hI.2.1, hI.2.2.1, hI.2.2.2.1, hI.2.2.2.2.1, hI.2.2.2.2.2.1, hI.2.2.2.2.2.2.1, hI.2.2.2.2.2.2.2.1, hI.2.2.2.2.2.2.2.2.1, hI.2.2.2.2.2.2.2.2.2.1, fun j hj => ?_, hI.2.2.2.2.2.2.2.2.2.2.2.1, hI.2.2.2.2.2.2.2.2.2.2.2.2⟩
  rw [e24]
  by_cases e : j = i
  · rw [if_pos e]; exact hv
  · rw [if_neg e]; exact hI.rp hj
theorem cAge_inv {σ : jS} (hI : cInv σ) : cInv (cAge σ) := hI.of_fr (fr.n cAge1_fr _ _) (by decide)
theorem cRoots_inv {σ : jS} (hI : cInv σ) : cInv (cRoots σ) := cRootN_inv hI _ (by have := hI.nbl.1; omega)
theorem cPass_inv {σ : jS} (hI : cInv σ) : cInv (cPass σ) := hI.of_fr (cPass_fr σ) (by decide)
theorem cSends_inv {σ : jS} (hI : cInv σ) : cInv (cSends σ) := hI.of_fr (fr.n cSend1_fr _ _) (by decide)
theorem cTake_inv {σ : jS} (hI : cInv σ) : cInv (cTake σ) := hI.of_fr (fr.n cTake1_fr _ _) (by decide)
theorem cSettle_inv {σ : jS} (hI : cInv σ) : cInv (cSettle σ) := (cRoots_inv hI).of_fr (fr.n cSettle1_fr _ _) (by decide)
theorem cTick_inv {σ : jS} (hI : cInv σ) : cInv (cTick σ) := cSettle_inv (cTake_inv (cSends_inv (cPass_inv (cRoots_inv (cAge_inv (hI.u (by decide)))))))
theorem cOld_inv {σ : jS} (hI : cInv σ) : cInv (cOld σ) := hI.of_fr (fr.n cOld1_fr _ _) (by decide)
theorem forN_s (f : Nat → jS → jS) (σ : jS) (n : Nat) : forN f σ (n + 1) = f n (forN f σ n) := rfl
theorem cTick1_e (σ : jS) : cTick1 σ = cOld (cTick σ) := by unfold cTick1; with_reducible rfl
theorem cTicks_s (σ : jS) (n : Nat) : cTicks σ (n + 1) = cOld (cTick (cTicks σ n)) := by
  unfold cTicks
  rw [forN_s]
  exact cTick1_e _
theorem cTicks_inv {σ : jS} (hI : cInv σ) : ∀ n, cInv (cTicks σ n) := by
  intro n
  induction n with
  | zero => exact hI
  | succ n ih => rw [cTicks_s]; exact cOld_inv (cTick_inv ih)
theorem cWhole_ne {σ : jS} {p : Nat} (h : cWhole σ p = true) : ¬ σ 12 p = -1 := by
  intro e
  simp [cWhole, e] at h
theorem inDiv4 {x : Int32} (h : okP 24 x) : vp_in (x / nI 4) 6 := by
  obtain ⟨k, hk, rfl⟩ := h
  rw [pk_div (by omega) (by decide) (by decide)]
  exact vp_in_nI (by omega) (by decide)
theorem cWithin_le {x : Int32} {m : Nat} (hm : m < 2 ^ 31) (h : cWithin x (nI 0) (nI m) = true) : ∃ k, k ≤ m ∧ x = nI k := by
  simp only [cWithin, Bool.and_eq_true, decide_eq_true_eq] at h
  obtain ⟨h0, h1⟩ := h
  obtain ⟨k, hk, rfl⟩ := nI_of (x := x) (by rw [nI_0] at h0; exact Int32.not_lt.mpr h0)
  exact ⟨k, (nI_leI hk hm).mp h1, rfl⟩
section CX
variable {l : Launch} {D : va_G} {R : Room} {nL : Nat} {X : jX} {cc : ByteArray} {own : String} {cw : Cond} {cI cZ : ClassId} {ret : Option FieldType} {a : Nat → Nat} {σ : jS} {pc : Nat} {L : List (Nat × Value)} {st : List Value}
theorem Cz_30 (hF : jF D R nL X cc own (cw :: jG) (jTys cI cZ) ret) {i : Nat} {x : Int32} (hi : i < 6) (hd : decode cc pc = .ok (.bastore, 1)) (k : jJ l D R nL X (wC a cI cZ (sU σ 30 i (vp_nar .boolean x))) (pc + 1) L st) : jJ l D R nL X (wC a cI cZ σ) pc L (.int x :: .int (nI i) :: .ref (a 30) :: st) :=
  jq_zastN hF 30 1 _ rfl rfl (by decide) hi rfl hd k
theorem mL_T_162 : Cond.methodLink rT 162 arraycopyName ∈ jG := jG_t2 191 rfl rfl
theorem mT_Y_arraycopy : Cond.static arraycopyName ∈ jG := jG_t2 192 rfl rfl
theorem mV_Y_arraycopy : Cond.native arraycopyName ∈ jG := jG_t2 193 rfl rfl
theorem C_copy (hF : jF D R nL X cc rT (cw :: jG) (jTys cI cZ) ret) {p : Nat} (hp : p < 24) (hR : 1 ≤ R.frames) (hL : (st.map fun v => v.category).sum + (nativeFrameWords "java/lang/System" "arraycopy" 5 + 11) ≤ R.locals) (hd : decode cc pc = .ok (.invokestatic 162, 3)) (k : jJ l D R nL X (wC a cI cZ (sF σ 18 (va_cpy (σ 20) (σ 18) (6 * p) (6 * p) 6))) (pc + 3) L st) : jJ l D R nL X (wC a cI cZ σ) pc L (.int (nI 6) :: .int (nI (6 * p)) :: .ref (a 18) :: .int (nI (6 * p)) :: .ref (a 20) :: st) := by
  intro H locs ls hP hD hS hl
  have e6 : (nI 6).toNatClampNeg = 6 := nI_clamp (by decide)
  have ep : (nI (6 * p)).toNatClampNeg = 6 * p := nI_clamp (by omega)
  refine va_copyi hF.1 hF.2.1 (hF.2.2.1.trans hl.1.symm) hF.2.2.2.1 (hF.2.2.2.2.1 _ (List.mem_cons_of_mem _ mL_T_162)) (hF.2.2.2.2.1 _ (List.mem_cons_of_mem _ mV_Y_arraycopy)) (hF.2.2.2.2.1 _ (List.mem_cons_of_mem _ mT_Y_arraycopy)) (hF.2.2.2.2.1 _ (List.mem_cons_of_mem _ mZ_Y)) hF.2.2.2.2.2.1 hP hD hS 20 18 0 0 (c0 := cI) (c1 := cI) (n0 := 144) (n1 := 144) (f := σ 20) (g := σ 18) (ty := .int) rfl rfl rfl rfl rfl (nI_pos (by omega)) (nI_pos (by omega)) (nI_pos (by decide)) (by rw [e6, ep]; omega) (by rw [e6, ep]; omega) (fun _ _ => rfl) hR hL hd (fun H1 locs1 hP1 hD1 hS1 => ?_)
  rw [e6, ep] at hP1 hD1
  exact k H1 locs1 ls hP1 hD1 hS1 hl
end CX
set_option maxHeartbeats 4000000 in
set_option maxRecDepth 100000 in
theorem mT_ageMessages (l : Launch) (D : va_G) (a : Nat → Nat) (cI cZ : ClassId) (σ : jS)   : jV l yT_ageMessages w_T_ageMessages (rmD 0) D (jTys cI cZ) [.ref (a 3)] (wC a cI cZ σ) (wC a cI cZ (cAge σ)) := by
  refine jV_of (ws' := jG) (by decide) rfl (Nat.le_of_ble_eq_true rfl) ?_
  intro X hF hk
  show jJ l D (rmD 0) 2 X (wC a cI cZ σ) 0 [(0, .ref (a 3))] []
  refine jq_iconst (pc := 0) hF dT_ageMessages_0 ic_0 ?_
  refine jq_istore_n (pc := 1) hF [(1, .int (nI 0)), (0, .ref (a 3))] dT_ageMessages_1 (Nat.le_of_ble_eq_true rfl) rfl ?_
  have lp2 : ∀ i, i ≤ 24 → jJ l D (rmD 0) 2 X (wC a cI cZ (forN cAge1 σ i)) 2 [(1, .int (nI i)), (0, .ref (a 3))] [] := by
    refine loop_up (fun i hi ih => ?_)
    refine jq_iload_n (pc := 2) hF 0 dT_ageMessages_2 rfl ?_
    refine jq_bipush (pc := 3) hF dT_ageMessages_3 bi_24 ?_
    refine jq_icmp_geN (pc := 5) hF 67 (by omega) (by omega) dT_ageMessages_5 rfl (fun h5 => ?_) (fun h5 => ?_)
    · obtain rfl : i = 24 := by omega
      exact jq_at (hk 67 _ dT_ageMessages_67) (congrArg (wC a cI cZ) (by rfl)) rfl rfl rfl
    · refine jq_aload_n (pc := 8) hF 1 dT_ageMessages_8 rfl ?_
      refine Cg_T_15 (pc := 9) hF dT_ageMessages_9 ?_
      refine jq_iload_n (pc := 12) hF 0 dT_ageMessages_12 rfl ?_
      refine Cl_19 (pc := 13) hF (by omega) dT_ageMessages_13 ?_
      refine jq_if_eq (pc := 14) hF 61 dT_ageMessages_14 rfl (fun h14 => ?_) (fun h14 => ?_)
      · refine jq_iincN (pc := 61) hF 0 [(1, .int (nI (i + 1))), (0, .ref (a 3))] dT_ageMessages_61 rfl (Nat.le_of_ble_eq_true rfl) rfl ?_
        refine jq_goto (pc := 64) hF 2 dT_ageMessages_64 rfl ?_
        refine jq_sub [(1, .int (nI (i + 1))), (0, .ref (a 3))] [0, 1] rfl ?_
        exact jq_at (ih (by omega)) (congrArg (wC a cI cZ) (by first | exact if_pos h14 | exact if_neg h14)) rfl rfl rfl
      · refine jq_aload_n (pc := 17) hF 1 dT_ageMessages_17 rfl ?_
        refine Cg_T_11 (pc := 18) hF dT_ageMessages_18 ?_
        refine jq_bipush (pc := 21) hF dT_ageMessages_21 bi_6 ?_
        refine jq_iload_n (pc := 23) hF 0 dT_ageMessages_23 rfl ?_
        refine jq_imulN (pc := 24) hF dT_ageMessages_24 ?_
        refine jq_iconst (pc := 25) hF dT_ageMessages_25 ic_4 ?_
        refine jq_iaddN (pc := 26) hF dT_ageMessages_26 ?_
        refine jq_dup2 (pc := 27) hF dT_ageMessages_27 rfl rfl ?_
        refine Cl_18 (pc := 28) hF (by omega) dT_ageMessages_28 ?_
        refine jq_iconst (pc := 29) hF dT_ageMessages_29 ic_1 ?_
        refine jq_iadd (pc := 30) hF dT_ageMessages_30 ?_
        refine Cs_18 (pc := 31) hF (by omega) dT_ageMessages_31 ?_
        refine jq_aload_n (pc := 32) hF 1 dT_ageMessages_32 rfl ?_
        refine Cg_T_15 (pc := 33) hF dT_ageMessages_33 ?_
        refine jq_iload_n (pc := 36) hF 0 dT_ageMessages_36 rfl ?_
        refine jq_aload_n (pc := 37) hF 1 dT_ageMessages_37 rfl ?_
        refine Cg_T_11 (pc := 38) hF dT_ageMessages_38 ?_
        refine jq_bipush (pc := 41) hF dT_ageMessages_41 bi_6 ?_
        refine jq_iload_n (pc := 43) hF 0 dT_ageMessages_43 rfl ?_
        refine jq_imulN (pc := 44) hF dT_ageMessages_44 ?_
        refine jq_iconst (pc := 45) hF dT_ageMessages_45 ic_4 ?_
        refine jq_iaddN (pc := 46) hF dT_ageMessages_46 ?_
        refine Cl_18 (pc := 47) hF (by omega) dT_ageMessages_47 ?_
        refine jq_aload_n (pc := 48) hF 1 dT_ageMessages_48 rfl ?_
        refine Cg_T_56 (pc := 49) hF dT_ageMessages_49 ?_
        have j60 : jJ l D (rmD 0) 2 X (wC a cI cZ (sU (forN cAge1 σ i) 18 (6 * i + 4) (((forN cAge1 σ i) 18 (6 * i + 4)) + (nI (1))))) 60 [(1, .int (nI i)), (0, .ref (a 3))] [.int (bI (!decide ((sU (forN cAge1 σ i) 18 (6 * i + 4) (((forN cAge1 σ i) 18 (6 * i + 4)) + (nI (1)))) 3 0 ≤ (sU (forN cAge1 σ i) 18 (6 * i + 4) (((forN cAge1 σ i) 18 (6 * i + 4)) + (nI (1)))) 18 (6 * i + 4)))), .int (nI i), .ref (a 19)] := by
          refine Cs_19 (pc := 60) hF (by omega) (bI_nar _) dT_ageMessages_60 ?_
          refine jq_iincN (pc := 61) hF 0 [(1, .int (nI (i + 1))), (0, .ref (a 3))] dT_ageMessages_61 rfl (Nat.le_of_ble_eq_true rfl) rfl ?_
          refine jq_goto (pc := 64) hF 2 dT_ageMessages_64 rfl ?_
          refine jq_sub [(1, .int (nI (i + 1))), (0, .ref (a 3))] [0, 1] rfl ?_
          exact jq_at (ih (by omega)) (congrArg (wC a cI cZ) (by first | exact if_pos h14 | exact if_neg h14)) rfl rfl rfl
        refine jq_icmp_ge (pc := 52) hF 59 dT_ageMessages_52 rfl (fun h52 => ?_) (fun h52 => ?_)
        · refine jq_iconst (pc := 59) hF dT_ageMessages_59 ic_0 ?_
          exact jq_at j60 rfl rfl rfl (by rw [decide_eq_true h52]; rfl)
        · refine jq_iconst (pc := 55) hF dT_ageMessages_55 ic_1 ?_
          refine jq_goto (pc := 56) hF 60 dT_ageMessages_56 rfl ?_
          exact jq_at j60 rfl rfl rfl (by rw [decide_eq_false h52]; rfl)
  exact jq_at (lp2 0 (by omega)) rfl rfl rfl rfl
set_option maxHeartbeats 4000000 in
set_option maxRecDepth 100000 in
theorem mT_chooseRoots (l : Launch) (D : va_G) (a : Nat → Nat) (cI cZ : ClassId) (σ : jS)  (hI : cInv σ) : jV l yT_chooseRoots w_T_chooseRoots (rmD 3) D (jTys cI cZ) [.ref (a 3)] (wC a cI cZ σ) (wC a cI cZ (cRoots σ)) := by
  refine jV_of (ws' := jG) (by decide) rfl (Nat.le_of_ble_eq_true rfl) ?_
  intro X hF hk
  show jJ l D (rmD 3) 3 X (wC a cI cZ σ) 0 [(0, .ref (a 3))] []
  refine jq_iconst (pc := 0) hF dT_chooseRoots_0 ic_0 ?_
  refine jq_istore_n (pc := 1) hF [(1, .int (nI 0)), (0, .ref (a 3))] dT_chooseRoots_1 (Nat.le_of_ble_eq_true rfl) rfl ?_
  have hnb := hI.nbl.1
  have lp2 : ∀ i, i ≤ cNb σ → jJ l D (rmD 3) 3 X (wC a cI cZ (forN cRoot1 σ i)) 2 [(1, .int (nI i)), (0, .ref (a 3))] [] := by
    refine loop_up (fun i hi ih => ?_)
    have hIi := cRootN_inv hI i (by omega)
    refine jq_iload_n (pc := 2) hF 0 dT_chooseRoots_2 rfl ?_
    refine jq_aload_n (pc := 3) hF 1 dT_chooseRoots_3 rfl ?_
    refine Cg_T_52 (pc := 4) hF dT_chooseRoots_4 ?_
    refine Cg_T_90 (pc := 7) hF dT_chooseRoots_7 ?_
    refine jq_top (nI (cNb σ)) ((by rw [(fr.n cRoot1_fr σ i) 1 (by decide)]; exact hI.nbl.2)) ?_
    refine jq_icmp_geN (pc := 10) hF 86 (by omega) (by omega) dT_chooseRoots_10 rfl (fun h10 => ?_) (fun h10 => ?_)
    · obtain rfl : i = cNb σ := by omega
      exact jq_at (hk 86 _ dT_chooseRoots_86) (congrArg (wC a cI cZ) (by rfl)) rfl rfl rfl
    · refine jq_aload_n (pc := 13) hF 1 dT_chooseRoots_13 rfl ?_
      refine jq_iload_n (pc := 14) hF 0 dT_chooseRoots_14 rfl ?_
      refine jq_cVI (pc := 15) hF (As := [.int (nI i)]) (rest := []) (mT_bestOffer l D a cI cZ (forN cRoot1 σ i) (i) (by omega) hIi) (jG_v mL_T_107 mI_T_bestOffer mS_T_bestOffer mZ_T mC_T_bestOffer) rfl rfl rfl dd_T_bestOffer ⟨Nat.le_of_ble_eq_true rfl, Nat.le_of_ble_eq_true rfl⟩ 3 rfl rfl rfl rfl (Nat.le_of_ble_eq_true rfl) dT_chooseRoots_15 ?_
      refine jq_istore_n (pc := 18) hF [(2, .int (cBest (forN cRoot1 σ i) (i))), (1, .int (nI i)), (0, .ref (a 3))] dT_chooseRoots_18 (Nat.le_of_ble_eq_true rfl) rfl ?_
      refine jq_aload_n (pc := 19) hF 2 dT_chooseRoots_19 rfl ?_
      refine Cg_T_31 (pc := 20) hF dT_chooseRoots_20 ?_
      refine jq_iload_n (pc := 23) hF 1 dT_chooseRoots_23 rfl ?_
      refine jq_iload_n (pc := 24) hF 0 dT_chooseRoots_24 rfl ?_
      refine Cs_24 (pc := 25) hF (by omega) dT_chooseRoots_25 ?_
      refine jq_aload_n (pc := 26) hF 2 dT_chooseRoots_26 rfl ?_
      refine Cg_T_25 (pc := 27) hF dT_chooseRoots_27 ?_
      refine jq_iload_n (pc := 30) hF 1 dT_chooseRoots_30 rfl ?_
      refine jq_iload_n (pc := 31) hF 0 dT_chooseRoots_31 rfl ?_
      refine jq_iconst (pc := 32) hF dT_chooseRoots_32 ic_m1 ?_
      have j59 : jJ l D (rmD 3) 3 X (wC a cI cZ (sU (forN cRoot1 σ i) 24 (i) (cBest (forN cRoot1 σ i) (i)))) 59 [(2, .int (cBest (forN cRoot1 σ i) (i))), (1, .int (nI i)), (0, .ref (a 3))] [.int (if ¬ (cBest (forN cRoot1 σ i) (i) = -1) then (sU (forN cRoot1 σ i) 24 (i) (cBest (forN cRoot1 σ i) (i))) 18 (((nI (6)) * (cBest (forN cRoot1 σ i) (i))) + (nI (0))).toNatClampNeg else (sU (forN cRoot1 σ i) 24 (i) (cBest (forN cRoot1 σ i) (i))) 6 (i)), .int (nI i), .ref (a 22)] := by
        refine Cs_22 (pc := 59) hF (by omega) dT_chooseRoots_59 ?_
        refine jq_aload_n (pc := 60) hF 2 dT_chooseRoots_60 rfl ?_
        refine Cg_T_28 (pc := 61) hF dT_chooseRoots_61 ?_
        refine jq_iload_n (pc := 64) hF 1 dT_chooseRoots_64 rfl ?_
        refine jq_iload_n (pc := 65) hF 0 dT_chooseRoots_65 rfl ?_
        refine jq_iconst (pc := 66) hF dT_chooseRoots_66 ic_m1 ?_
        have j79 : jJ l D (rmD 3) 3 X (wC a cI cZ (sU (sU (forN cRoot1 σ i) 24 (i) (cBest (forN cRoot1 σ i) (i))) 22 (i) (if ¬ (cBest (forN cRoot1 σ i) (i) = -1) then (sU (forN cRoot1 σ i) 24 (i) (cBest (forN cRoot1 σ i) (i))) 18 (((nI (6)) * (cBest (forN cRoot1 σ i) (i))) + (nI (0))).toNatClampNeg else (sU (forN cRoot1 σ i) 24 (i) (cBest (forN cRoot1 σ i) (i))) 6 (i)))) 79 [(2, .int (cBest (forN cRoot1 σ i) (i))), (1, .int (nI i)), (0, .ref (a 3))] [.int (if ¬ (cBest (forN cRoot1 σ i) (i) = -1) then cOffCost (sU (sU (forN cRoot1 σ i) 24 (i) (cBest (forN cRoot1 σ i) (i))) 22 (i) (if ¬ (cBest (forN cRoot1 σ i) (i) = -1) then (sU (forN cRoot1 σ i) 24 (i) (cBest (forN cRoot1 σ i) (i))) 18 (((nI (6)) * (cBest (forN cRoot1 σ i) (i))) + (nI (0))).toNatClampNeg else (sU (forN cRoot1 σ i) 24 (i) (cBest (forN cRoot1 σ i) (i))) 6 (i))) ((cBest (forN cRoot1 σ i) (i)).toNatClampNeg) else nI (0)), .int (nI i), .ref (a 23)] := by
          refine Cs_23 (pc := 79) hF (by omega) dT_chooseRoots_79 ?_
          refine jq_iincN (pc := 80) hF 1 [(1, .int (nI (i + 1))), (2, .int (cBest (forN cRoot1 σ i) (i))), (0, .ref (a 3))] dT_chooseRoots_80 rfl (Nat.le_of_ble_eq_true rfl) rfl ?_
          refine jq_goto (pc := 83) hF 2 dT_chooseRoots_83 rfl ?_
          refine jq_sub [(1, .int (nI (i + 1))), (0, .ref (a 3))] [0, 2] rfl ?_
          exact jq_at (ih (by omega)) rfl rfl rfl rfl
        refine jq_icmp_ne (pc := 67) hF 74 dT_chooseRoots_67 rfl (fun h67 => ?_) (fun h67 => ?_)
        · refine jq_aload_n (pc := 74) hF 2 dT_chooseRoots_74 rfl ?_
          refine jq_iload_n (pc := 75) hF 0 dT_chooseRoots_75 rfl ?_
          refine jq_top (nI ((cBest (forN cRoot1 σ i) (i)).toNatClampNeg)) (((cBestN_ok _ i 4 (by omega) (Nat.le_refl _)).cl h67 (by decide)).2) ?_
          refine jq_cVI (pc := 76) hF (As := [.int (nI ((cBest (forN cRoot1 σ i) (i)).toNatClampNeg))]) (rest := [.int (nI i), .ref (a 23)]) (mT_offeredCost l D a cI cZ (sU (sU (forN cRoot1 σ i) 24 (i) (cBest (forN cRoot1 σ i) (i))) 22 (i) (if ¬ (cBest (forN cRoot1 σ i) (i) = -1) then (sU (forN cRoot1 σ i) 24 (i) (cBest (forN cRoot1 σ i) (i))) 18 (((nI (6)) * (cBest (forN cRoot1 σ i) (i))) + (nI (0))).toNatClampNeg else (sU (forN cRoot1 σ i) 24 (i) (cBest (forN cRoot1 σ i) (i))) 6 (i))) ((cBest (forN cRoot1 σ i) (i)).toNatClampNeg) ((cBestN_ok _ i 4 (by omega) (Nat.le_refl _)).cl h67 (by decide)).1 ((hIi.u24 (cBestN_ok _ i 4 (by omega) (Nat.le_refl _))).u (by decide))) (jG_v mL_T_113 mI_T_offeredCost mS_T_offeredCost mZ_T mC_T_offeredCost) rfl rfl rfl dd_T_offeredCost ⟨Nat.le_of_ble_eq_true rfl, Nat.le_of_ble_eq_true rfl⟩ 3 rfl rfl rfl rfl (Nat.le_of_ble_eq_true rfl) dT_chooseRoots_76 ?_
          exact jq_at j79 rfl rfl rfl (by rw [if_pos h67])
        · refine jq_iconst (pc := 70) hF dT_chooseRoots_70 ic_0 ?_
          refine jq_goto (pc := 71) hF 79 dT_chooseRoots_71 rfl ?_
          exact jq_at j79 rfl rfl rfl (by rw [if_neg (show ¬ (¬ (cBest (forN cRoot1 σ i) (i) = -1)) by simp [h67])])
      refine jq_icmp_ne (pc := 33) hF 48 dT_chooseRoots_33 rfl (fun h33 => ?_) (fun h33 => ?_)
      · refine jq_aload_n (pc := 48) hF 2 dT_chooseRoots_48 rfl ?_
        refine Cg_T_11 (pc := 49) hF dT_chooseRoots_49 ?_
        refine jq_bipush (pc := 52) hF dT_chooseRoots_52 bi_6 ?_
        refine jq_iload_n (pc := 54) hF 0 dT_chooseRoots_54 rfl ?_
        refine jq_imul (pc := 55) hF dT_chooseRoots_55 ?_
        refine jq_iconst (pc := 56) hF dT_chooseRoots_56 ic_0 ?_
        refine jq_iadd (pc := 57) hF dT_chooseRoots_57 ?_
        refine CL_18 (pc := 58) hF (in6 ((cBestN_ok _ i 4 (by omega) (Nat.le_refl _)).resolve_left h33) (by decide)) dT_chooseRoots_58 ?_
        exact jq_at j59 rfl rfl rfl (by rw [if_pos h33])
      · refine jq_aload_n (pc := 36) hF 2 dT_chooseRoots_36 rfl ?_
        refine Cg_T_52 (pc := 37) hF dT_chooseRoots_37 ?_
        refine Cg_T_110 (pc := 40) hF dT_chooseRoots_40 ?_
        refine jq_iload_n (pc := 43) hF 1 dT_chooseRoots_43 rfl ?_
        refine Cl_6 (pc := 44) hF (by omega) dT_chooseRoots_44 ?_
        refine jq_goto (pc := 45) hF 59 dT_chooseRoots_45 rfl ?_
        exact jq_at j59 rfl rfl rfl (by rw [if_neg (show ¬ (¬ (cBest (forN cRoot1 σ i) (i) = -1)) by simp [h33])])
  exact jq_at (lp2 0 (by omega)) rfl rfl rfl rfl
set_option maxHeartbeats 4000000 in
set_option maxRecDepth 100000 in
theorem mT_settle (l : Launch) (D : va_G) (a : Nat → Nat) (cI cZ : ClassId) (σ : jS)  (hI : cInv σ) : jV l yT_settle w_T_settle (rmD 4) D (jTys cI cZ) [.ref (a 3)] (wC a cI cZ σ) (wC a cI cZ (cSettle σ)) := by
  refine jV_of (ws' := jG) (by decide) rfl (Nat.le_of_ble_eq_true rfl) ?_
  intro X hF hk
  show jJ l D (rmD 4) 4 X (wC a cI cZ σ) 0 [(0, .ref (a 3))] []
  refine jq_aload_n (pc := 0) hF 0 dT_settle_0 rfl ?_
  refine jq_cVV (pc := 1) hF (As := []) (rest := []) (mT_chooseRoots l D a cI cZ σ  hI) (jG_v mL_T_75 mI_T_chooseRoots mS_T_chooseRoots mZ_T mC_T_chooseRoots) rfl rfl rfl dd_T_chooseRoots ⟨Nat.le_of_ble_eq_true rfl, Nat.le_of_ble_eq_true rfl⟩ 3 rfl rfl rfl rfl (Nat.le_of_ble_eq_true rfl) dT_settle_1 ?_
  refine jq_iconst (pc := 4) hF dT_settle_4 ic_4 ?_
  refine jq_aload_n (pc := 5) hF 0 dT_settle_5 rfl ?_
  refine Cg_T_52 (pc := 6) hF dT_settle_6 ?_
  refine Cg_T_90 (pc := 9) hF dT_settle_9 ?_
  refine jq_top (nI (cNb σ)) ((by rw [cRoots_fr σ 1 (by decide)]; exact hI.nbl.2)) ?_
  refine jq_imulN (pc := 12) hF dT_settle_12 ?_
  refine jq_istore_n (pc := 13) hF [(1, .int (nI (4 * (cNb σ)))), (0, .ref (a 3))] dT_settle_13 (Nat.le_of_ble_eq_true rfl) rfl ?_
  refine jq_iconst (pc := 14) hF dT_settle_14 ic_0 ?_
  refine jq_istore_n (pc := 15) hF [(2, .int (nI 0)), (1, .int (nI (4 * (cNb σ)))), (0, .ref (a 3))] dT_settle_15 (Nat.le_of_ble_eq_true rfl) rfl ?_
  have hnb := hI.nbl.1
  have hI1 : ∀ i, cInv (forN cSettle1 (cRoots σ) i) := fun i => (cRootN_inv hI (cNb σ) (by omega)).of_fr (fr.n cSettle1_fr _ i) (by decide)
  have lp16 : ∀ i, i ≤ 4 * cNb σ → jJ l D (rmD 4) 4 X (wC a cI cZ (forN cSettle1 (cRoots σ) i)) 16 [(2, .int (nI i)), (1, .int (nI (4 * (cNb σ)))), (0, .ref (a 3))] [] := by
    refine loop_up (fun i hi ih => ?_)
    refine jq_iload_n (pc := 16) hF 0 dT_settle_16 rfl ?_
    refine jq_iload_n (pc := 17) hF 1 dT_settle_17 rfl ?_
    refine jq_icmp_geN (pc := 18) hF 72 (by omega) (by omega) dT_settle_18 rfl (fun h18 => ?_) (fun h18 => ?_)
    · obtain rfl : i = 4 * cNb σ := by omega
      exact jq_at (hk 72 _ dT_settle_72) (congrArg (wC a cI cZ) (by rfl)) rfl rfl rfl
    · refine jq_aload_n (pc := 21) hF 2 dT_settle_21 rfl ?_
      refine jq_iload_n (pc := 22) hF 0 dT_settle_22 rfl ?_
      refine jq_cVV (pc := 23) hF (As := [.int (nI i)]) (rest := []) (mT_lookAtRole l D a cI cZ (forN cSettle1 (cRoots σ) i) (i) (by omega) (hI1 i)) (jG_v mL_T_95 mI_T_lookAtRole mS_T_lookAtRole mZ_T mC_T_lookAtRole) rfl rfl rfl dd_T_lookAtRole ⟨Nat.le_of_ble_eq_true rfl, Nat.le_of_ble_eq_true rfl⟩ 3 rfl rfl rfl rfl (Nat.le_of_ble_eq_true rfl) dT_settle_23 ?_
      refine jq_aload_n (pc := 26) hF 2 dT_settle_26 rfl ?_
      refine Cg_T_40 (pc := 27) hF dT_settle_27 ?_
      refine jq_iload_n (pc := 30) hF 0 dT_settle_30 rfl ?_
      refine Cl_27 (pc := 31) hF (by omega) dT_settle_31 ?_
      refine jq_istore_n (pc := 32) hF [(3, .int ((cLook (forN cSettle1 (cRoots σ) i) (i)) 27 (i))), (2, .int (nI i)), (1, .int (nI (4 * (cNb σ)))), (0, .ref (a 3))] dT_settle_32 (Nat.le_of_ble_eq_true rfl) rfl ?_
      refine jq_aload_n (pc := 33) hF 3 dT_settle_33 rfl ?_
      refine Cg_T_40 (pc := 34) hF dT_settle_34 ?_
      refine jq_iload_n (pc := 37) hF 1 dT_settle_37 rfl ?_
      refine jq_aload_n (pc := 38) hF 3 dT_settle_38 rfl ?_
      refine jq_iload_n (pc := 39) hF 1 dT_settle_39 rfl ?_
      refine jq_cVI (pc := 40) hF (As := [.int (nI i)]) (rest := [.int (nI i), .ref (a 27)]) (mT_stateNow l D a cI cZ (cLook (forN cSettle1 (cRoots σ) i) (i)) (i) (by omega)) (jG_v mL_T_99 mI_T_stateNow mS_T_stateNow mZ_T mC_T_stateNow) rfl rfl rfl dd_T_stateNow ⟨Nat.le_of_ble_eq_true rfl, Nat.le_of_ble_eq_true rfl⟩ 3 rfl rfl rfl rfl (Nat.le_of_ble_eq_true rfl) dT_settle_40 ?_
      refine Cs_27 (pc := 43) hF (by omega) dT_settle_43 ?_
      refine jq_iload_n (pc := 44) hF 0 dT_settle_44 rfl ?_
      refine jq_aload_n (pc := 45) hF 3 dT_settle_45 rfl ?_
      refine Cg_T_40 (pc := 46) hF dT_settle_46 ?_
      refine jq_iload_n (pc := 49) hF 1 dT_settle_49 rfl ?_
      refine Cl_27 (pc := 50) hF (by omega) dT_settle_50 ?_
      refine jq_cSI (pc := 51) hF (As := [.int ((cLook (forN cSettle1 (cRoots σ) i) (i)) 27 (i)), .int ((sU (cLook (forN cSettle1 (cRoots σ) i) (i)) 27 (i) (cState (cLook (forN cSettle1 (cRoots σ) i) (i)) (i))) 27 (i))]) (rest := []) (mT_isWorthNotice l D a cI cZ (sU (cLook (forN cSettle1 (cRoots σ) i) (i)) 27 (i) (cState (cLook (forN cSettle1 (cRoots σ) i) (i)) (i))) ((cLook (forN cSettle1 (cRoots σ) i) (i)) 27 (i)) ((sU (cLook (forN cSettle1 (cRoots σ) i) (i)) 27 (i) (cState (cLook (forN cSettle1 (cRoots σ) i) (i)) (i))) 27 (i)) ) (jG_st mL_T_103 mT_T_isWorthNotice mZ_T mC_T_isWorthNotice) rfl rfl rfl dd_T_isWorthNotice ⟨Nat.le_of_ble_eq_true rfl, Nat.le_of_ble_eq_true rfl⟩ rfl rfl (Nat.le_of_ble_eq_true rfl) dT_settle_51 ?_
      refine jq_if_eqB (pc := 54) hF 66 dT_settle_54 rfl (fun h54 => ?_) (fun h54 => ?_)
      · refine jq_iincN (pc := 66) hF 1 [(2, .int (nI (i + 1))), (3, .int ((cLook (forN cSettle1 (cRoots σ) i) (i)) 27 (i))), (1, .int (nI (4 * (cNb σ)))), (0, .ref (a 3))] dT_settle_66 rfl (Nat.le_of_ble_eq_true rfl) rfl ?_
        refine jq_goto (pc := 69) hF 16 dT_settle_69 rfl ?_
        refine jq_sub [(2, .int (nI (i + 1))), (1, .int (nI (4 * (cNb σ)))), (0, .ref (a 3))] [0, 2, 3] rfl ?_
        exact jq_at (ih (by omega)) (congrArg (wC a cI cZ) (by first | exact if_pos h54 | exact if_neg (by rw [h54]; decide))) rfl rfl rfl
      · refine jq_aload_n (pc := 57) hF 3 dT_settle_57 rfl ?_
        refine Cg_T_46 (pc := 58) hF dT_settle_58 ?_
        refine jq_iload_n (pc := 61) hF 1 dT_settle_61 rfl ?_
        refine jq_iconst (pc := 62) hF dT_settle_62 ic_4 ?_
        refine jq_idivN (pc := 63) hF (by omega) (by decide) (by decide) dT_settle_63 ?_
        refine jq_iconst (pc := 64) hF dT_settle_64 ic_1 ?_
        refine Cs_29 (pc := 65) hF (by omega) rfl dT_settle_65 ?_
        refine jq_iincN (pc := 66) hF 1 [(2, .int (nI (i + 1))), (3, .int ((cLook (forN cSettle1 (cRoots σ) i) (i)) 27 (i))), (1, .int (nI (4 * (cNb σ)))), (0, .ref (a 3))] dT_settle_66 rfl (Nat.le_of_ble_eq_true rfl) rfl ?_
        refine jq_goto (pc := 69) hF 16 dT_settle_69 rfl ?_
        refine jq_sub [(2, .int (nI (i + 1))), (1, .int (nI (4 * (cNb σ)))), (0, .ref (a 3))] [0, 2, 3] rfl ?_
        exact jq_at (ih (by omega)) (congrArg (wC a cI cZ) (by first | exact if_pos h54 | exact if_neg (by rw [h54]; decide))) rfl rfl rfl
  exact jq_at (lp16 0 (by omega)) rfl rfl rfl rfl
set_option maxHeartbeats 4000000 in
set_option maxRecDepth 100000 in
theorem mT_passNoticeOf (l : Launch) (D : va_G) (a : Nat → Nat) (cI cZ : ClassId) (σ : jS) (b : Nat) (hb : b < 6) (hI : cInv σ) : jV l yT_passNoticeOf w_T_passNoticeOf (rmD 0) D (jTys cI cZ) [.ref (a 3), .int (nI b)] (wC a cI cZ σ) (wC a cI cZ (cPassOf σ b)) := by
  refine jV_of (ws' := jG) (by decide) rfl (Nat.le_of_ble_eq_true rfl) ?_
  intro X hF hk
  show jJ l D (rmD 0) 3 X (wC a cI cZ σ) 0 [(0, .ref (a 3)), (1, .int (nI b))] []
  refine jq_aload_n (pc := 0) hF 0 dT_passNoticeOf_0 rfl ?_
  refine Cg_T_31 (pc := 1) hF dT_passNoticeOf_1 ?_
  refine jq_iload_n (pc := 4) hF 1 dT_passNoticeOf_4 rfl ?_
  refine Cl_24 (pc := 5) hF (by omega) dT_passNoticeOf_5 ?_
  refine jq_iconst (pc := 6) hF dT_passNoticeOf_6 ic_m1 ?_
  refine jq_icmp_ne (pc := 7) hF 31 dT_passNoticeOf_7 rfl (fun h7 => ?_) (fun h7 => ?_)
  · refine jq_aload_n (pc := 31) hF 0 dT_passNoticeOf_31 rfl ?_
    refine Cg_T_52 (pc := 32) hF dT_passNoticeOf_32 ?_
    refine Cg_T_152 (pc := 35) hF dT_passNoticeOf_35 ?_
    refine jq_aload_n (pc := 38) hF 0 dT_passNoticeOf_38 rfl ?_
    refine Cg_T_31 (pc := 39) hF dT_passNoticeOf_39 ?_
    refine jq_iload_n (pc := 42) hF 1 dT_passNoticeOf_42 rfl ?_
    refine Cl_24 (pc := 43) hF (by omega) dT_passNoticeOf_43 ?_
    refine CL_13 (pc := 44) hF ((hI.rp hb).inn h7 (by decide)) dT_passNoticeOf_44 ?_
    refine jq_istore_n (pc := 45) hF [(2, .int (σ 13 (σ 24 (b)).toNatClampNeg)), (0, .ref (a 3)), (1, .int (nI b))] dT_passNoticeOf_45 (Nat.le_of_ble_eq_true rfl) rfl ?_
    refine jq_iload_n (pc := 46) hF 0 dT_passNoticeOf_46 rfl ?_
    refine jq_iconst (pc := 47) hF dT_passNoticeOf_47 ic_m1 ?_
    refine jq_icmp_eq (pc := 48) hF 60 dT_passNoticeOf_48 rfl (fun h48 => ?_) (fun h48 => ?_)
    · exact jq_at (hk 60 _ dT_passNoticeOf_60) (congrArg (wC a cI cZ) (by simp [cPassOf, h7, h48])) rfl rfl rfl
    · refine jq_aload_n (pc := 51) hF 1 dT_passNoticeOf_51 rfl ?_
      refine Cg_T_46 (pc := 52) hF dT_passNoticeOf_52 ?_
      refine jq_iload_n (pc := 55) hF 0 dT_passNoticeOf_55 rfl ?_
      refine jq_iconst (pc := 56) hF dT_passNoticeOf_56 ic_4 ?_
      refine jq_idiv (pc := 57) hF dT_passNoticeOf_57 (by decide) ?_
      refine jq_iconst (pc := 58) hF dT_passNoticeOf_58 ic_1 ?_
      refine CS_29 (pc := 59) hF (inDiv4 ((hI.far ((hI.rp hb).cl h7 (by decide)).1).resolve_left h48)) rfl dT_passNoticeOf_59 ?_
      exact jq_at (hk 60 _ dT_passNoticeOf_60) (congrArg (wC a cI cZ) (by simp [cPassOf, h7, h48])) rfl rfl rfl
  · refine jq_aload_n (pc := 10) hF 0 dT_passNoticeOf_10 rfl ?_
    refine Cg_T_43 (pc := 11) hF dT_passNoticeOf_11 ?_
    refine jq_iload_n (pc := 14) hF 1 dT_passNoticeOf_14 rfl ?_
    refine jq_aload_n (pc := 15) hF 0 dT_passNoticeOf_15 rfl ?_
    refine Cg_T_69 (pc := 16) hF dT_passNoticeOf_16 ?_
    refine jq_aload_n (pc := 19) hF 0 dT_passNoticeOf_19 rfl ?_
    refine Cg_T_56 (pc := 20) hF dT_passNoticeOf_20 ?_
    refine jq_iadd (pc := 23) hF dT_passNoticeOf_23 ?_
    refine jq_aload_n (pc := 24) hF 0 dT_passNoticeOf_24 rfl ?_
    refine Cg_T_60 (pc := 25) hF dT_passNoticeOf_25 ?_
    refine jq_iadd (pc := 28) hF dT_passNoticeOf_28 ?_
    refine Cs_28 (pc := 29) hF (by omega) dT_passNoticeOf_29 ?_
    exact jq_at (hk 30 _ dT_passNoticeOf_30) (congrArg (wC a cI cZ) (by simp [cPassOf, h7])) rfl rfl rfl
set_option maxHeartbeats 4000000 in
set_option maxRecDepth 100000 in
theorem mT_passNotices (l : Launch) (D : va_G) (a : Nat → Nat) (cI cZ : ClassId) (σ : jS)  (hI : cInv σ) : jV l yT_passNotices w_T_passNotices (rmD 1) D (jTys cI cZ) [.ref (a 3)] (wC a cI cZ σ) (wC a cI cZ (cPass σ)) := by
  refine jV_of (ws' := jG) (by decide) rfl (Nat.le_of_ble_eq_true rfl) ?_
  intro X hF hk
  show jJ l D (rmD 1) 2 X (wC a cI cZ σ) 0 [(0, .ref (a 3))] []
  refine jq_iconst (pc := 0) hF dT_passNotices_0 ic_0 ?_
  refine jq_istore_n (pc := 1) hF [(1, .int (nI 0)), (0, .ref (a 3))] dT_passNotices_1 (Nat.le_of_ble_eq_true rfl) rfl ?_
  have hnb := hI.nbl.1
  have hI2 : ∀ j, cInv (forN cPassB (forN cPassA σ (cNb σ)) j) := fun j => hI.of_fr ((fr.n cPassA_fr σ _).tr (fr.n cPassB_fr _ j)) (by decide)
  have lp2 : ∀ i, i ≤ cNb σ → jJ l D (rmD 1) 2 X (wC a cI cZ (forN cPassA σ i)) 2 [(1, .int (nI i)), (0, .ref (a 3))] [] := by
    refine loop_up (fun i hi ih => ?_)
    refine jq_iload_n (pc := 2) hF 0 dT_passNotices_2 rfl ?_
    refine jq_aload_n (pc := 3) hF 1 dT_passNotices_3 rfl ?_
    refine Cg_T_52 (pc := 4) hF dT_passNotices_4 ?_
    refine Cg_T_90 (pc := 7) hF dT_passNotices_7 ?_
    refine jq_top (nI (cNb σ)) ((by rw [(fr.n cPassA_fr σ i) 1 (by decide)]; exact hI.nbl.2)) ?_
    refine jq_icmp_geN (pc := 10) hF 38 (by omega) (by omega) dT_passNotices_10 rfl (fun h10 => ?_) (fun h10 => ?_)
    · obtain rfl : i = cNb σ := by omega
      refine jq_iconst (pc := 38) hF dT_passNotices_38 ic_0 ?_
      refine jq_istore_n (pc := 39) hF [(1, .int (nI 0)), (0, .ref (a 3))] dT_passNotices_39 (Nat.le_of_ble_eq_true rfl) rfl ?_
      have lp40 : ∀ j, j ≤ cNb σ → jJ l D (rmD 1) 2 X (wC a cI cZ (forN cPassB (forN cPassA σ (cNb σ)) j)) 40 [(1, .int (nI j)), (0, .ref (a 3))] [] := by
        refine loop_up (fun j hi ih => ?_)
        refine jq_iload_n (pc := 40) hF 0 dT_passNotices_40 rfl ?_
        refine jq_aload_n (pc := 41) hF 1 dT_passNotices_41 rfl ?_
        refine Cg_T_52 (pc := 42) hF dT_passNotices_42 ?_
        refine Cg_T_90 (pc := 45) hF dT_passNotices_45 ?_
        refine jq_top (nI (cNb σ)) ((by rw [((fr.n cPassA_fr σ _).tr (fr.n cPassB_fr _ j)) 1 (by decide)]; exact hI.nbl.2)) ?_
        refine jq_icmp_geN (pc := 48) hF 71 (by omega) (by omega) dT_passNotices_48 rfl (fun h48 => ?_) (fun h48 => ?_)
        · obtain rfl : j = cNb σ := by omega
          exact jq_at (hk 71 _ dT_passNotices_71) (congrArg (wC a cI cZ) (by rfl)) rfl rfl rfl
        · refine jq_aload_n (pc := 51) hF 1 dT_passNotices_51 rfl ?_
          refine Cg_T_49 (pc := 52) hF dT_passNotices_52 ?_
          refine jq_iload_n (pc := 55) hF 0 dT_passNotices_55 rfl ?_
          refine Cl_30 (pc := 56) hF (by omega) dT_passNotices_56 ?_
          refine jq_if_eq (pc := 57) hF 65 dT_passNotices_57 rfl (fun h57 => ?_) (fun h57 => ?_)
          · refine jq_iincN (pc := 65) hF 0 [(1, .int (nI (j + 1))), (0, .ref (a 3))] dT_passNotices_65 rfl (Nat.le_of_ble_eq_true rfl) rfl ?_
            refine jq_goto (pc := 68) hF 40 dT_passNotices_68 rfl ?_
            refine jq_sub [(1, .int (nI (j + 1))), (0, .ref (a 3))] [0, 1] rfl ?_
            exact jq_at (ih (by omega)) (congrArg (wC a cI cZ) (by first | exact if_pos h57 | exact if_neg h57)) rfl rfl rfl
          · refine jq_aload_n (pc := 60) hF 1 dT_passNotices_60 rfl ?_
            refine jq_iload_n (pc := 61) hF 0 dT_passNotices_61 rfl ?_
            refine jq_cVV (pc := 62) hF (As := [.int (nI j)]) (rest := []) (mT_passNoticeOf l D a cI cZ (forN cPassB (forN cPassA σ (cNb σ)) j) (j) (by omega) (hI2 j)) (jG_v mL_T_149 mI_T_passNoticeOf mS_T_passNoticeOf mZ_T mC_T_passNoticeOf) rfl rfl rfl dd_T_passNoticeOf ⟨Nat.le_of_ble_eq_true rfl, Nat.le_of_ble_eq_true rfl⟩ 3 rfl rfl rfl rfl (Nat.le_of_ble_eq_true rfl) dT_passNotices_62 ?_
            refine jq_iincN (pc := 65) hF 0 [(1, .int (nI (j + 1))), (0, .ref (a 3))] dT_passNotices_65 rfl (Nat.le_of_ble_eq_true rfl) rfl ?_
            refine jq_goto (pc := 68) hF 40 dT_passNotices_68 rfl ?_
            refine jq_sub [(1, .int (nI (j + 1))), (0, .ref (a 3))] [0, 1] rfl ?_
            exact jq_at (ih (by omega)) (congrArg (wC a cI cZ) (by first | exact if_pos h57 | exact if_neg h57)) rfl rfl rfl
      exact jq_at (lp40 0 (by omega)) rfl rfl rfl rfl
    · refine jq_aload_n (pc := 13) hF 1 dT_passNotices_13 rfl ?_
      refine Cg_T_49 (pc := 14) hF dT_passNotices_14 ?_
      refine jq_iload_n (pc := 17) hF 0 dT_passNotices_17 rfl ?_
      refine jq_aload_n (pc := 18) hF 1 dT_passNotices_18 rfl ?_
      refine Cg_T_46 (pc := 19) hF dT_passNotices_19 ?_
      refine jq_iload_n (pc := 22) hF 0 dT_passNotices_22 rfl ?_
      refine Cl_29 (pc := 23) hF (by omega) dT_passNotices_23 ?_
      refine Cz_30 (pc := 24) hF (by omega) dT_passNotices_24 ?_
      refine jq_aload_n (pc := 25) hF 1 dT_passNotices_25 rfl ?_
      refine Cg_T_46 (pc := 26) hF dT_passNotices_26 ?_
      refine jq_iload_n (pc := 29) hF 0 dT_passNotices_29 rfl ?_
      refine jq_iconst (pc := 30) hF dT_passNotices_30 ic_0 ?_
      refine Cs_29 (pc := 31) hF (by omega) rfl dT_passNotices_31 ?_
      refine jq_iincN (pc := 32) hF 0 [(1, .int (nI (i + 1))), (0, .ref (a 3))] dT_passNotices_32 rfl (Nat.le_of_ble_eq_true rfl) rfl ?_
      refine jq_goto (pc := 35) hF 2 dT_passNotices_35 rfl ?_
      refine jq_sub [(1, .int (nI (i + 1))), (0, .ref (a 3))] [0, 1] rfl ?_
      exact jq_at (ih (by omega)) rfl rfl rfl rfl
  exact jq_at (lp2 0 (by omega)) rfl rfl rfl rfl
set_option maxHeartbeats 4000000 in
set_option maxRecDepth 100000 in
theorem mT_sendMessage (l : Launch) (D : va_G) (a : Nat → Nat) (cI cZ : ClassId) (σ : jS) (p : Nat) (far : Nat) (hp : p < 24) (hf : far < 24) (hI : cInv σ) : jV l yT_sendMessage w_T_sendMessage (rmD 1) D (jTys cI cZ) [.ref (a 3), .int (nI p), .int (nI far)] (wC a cI cZ σ) (wC a cI cZ (cSend σ p far)) := by
  refine jV_of (ws' := jG) (by decide) rfl (Nat.le_of_ble_eq_true rfl) ?_
  intro X hF hk
  show jJ l D (rmD 1) 6 X (wC a cI cZ σ) 0 [(0, .ref (a 3)), (1, .int (nI p)), (2, .int (nI far))] []
  refine jq_iload_n (pc := 0) hF 1 dT_sendMessage_0 rfl ?_
  refine jq_iconst (pc := 1) hF dT_sendMessage_1 ic_4 ?_
  refine jq_idivN (pc := 2) hF (by omega) (by decide) (by decide) dT_sendMessage_2 ?_
  refine jq_istore_n (pc := 3) hF [(3, .int (nI (p / 4))), (0, .ref (a 3)), (1, .int (nI p)), (2, .int (nI far))] dT_sendMessage_3 (Nat.le_of_ble_eq_true rfl) rfl ?_
  refine jq_bipush (pc := 4) hF dT_sendMessage_4 bi_6 ?_
  refine jq_iload_n (pc := 6) hF 3 dT_sendMessage_6 rfl ?_
  refine jq_imulN (pc := 7) hF dT_sendMessage_7 ?_
  refine jq_istore (pc := 8) hF [(4, .int (nI (6 * far))), (3, .int (nI (p / 4))), (0, .ref (a 3)), (1, .int (nI p)), (2, .int (nI far))] dT_sendMessage_8 (Nat.le_of_ble_eq_true rfl) rfl ?_
  refine jq_aload_n (pc := 10) hF 2 dT_sendMessage_10 rfl ?_
  refine Cg_T_31 (pc := 11) hF dT_sendMessage_11 ?_
  refine jq_iload_n (pc := 14) hF 1 dT_sendMessage_14 rfl ?_
  refine Cl_24 (pc := 15) hF (by omega) dT_sendMessage_15 ?_
  refine jq_istore (pc := 16) hF [(5, .int (σ 24 (p / 4))), (4, .int (nI (6 * far))), (3, .int (nI (p / 4))), (0, .ref (a 3)), (1, .int (nI p)), (2, .int (nI far))] dT_sendMessage_16 (Nat.le_of_ble_eq_true rfl) rfl ?_
  refine jq_aload_n (pc := 18) hF 3 dT_sendMessage_18 rfl ?_
  refine Cg_T_19 (pc := 19) hF dT_sendMessage_19 ?_
  refine jq_iload (pc := 22) hF 1 dT_sendMessage_22 rfl ?_
  refine jq_iconst (pc := 24) hF dT_sendMessage_24 ic_0 ?_
  refine jq_iaddN (pc := 25) hF dT_sendMessage_25 ?_
  refine jq_aload_n (pc := 26) hF 3 dT_sendMessage_26 rfl ?_
  refine Cg_T_25 (pc := 27) hF dT_sendMessage_27 ?_
  refine jq_iload_n (pc := 30) hF 2 dT_sendMessage_30 rfl ?_
  refine Cl_22 (pc := 31) hF (by omega) dT_sendMessage_31 ?_
  refine Cs_20 (pc := 32) hF (by omega) dT_sendMessage_32 ?_
  refine jq_aload_n (pc := 33) hF 3 dT_sendMessage_33 rfl ?_
  refine Cg_T_19 (pc := 34) hF dT_sendMessage_34 ?_
  refine jq_iload (pc := 37) hF 1 dT_sendMessage_37 rfl ?_
  refine jq_iconst (pc := 39) hF dT_sendMessage_39 ic_1 ?_
  refine jq_iaddN (pc := 40) hF dT_sendMessage_40 ?_
  refine jq_aload_n (pc := 41) hF 3 dT_sendMessage_41 rfl ?_
  refine Cg_T_28 (pc := 42) hF dT_sendMessage_42 ?_
  refine jq_iload_n (pc := 45) hF 2 dT_sendMessage_45 rfl ?_
  refine Cl_23 (pc := 46) hF (by omega) dT_sendMessage_46 ?_
  refine Cs_20 (pc := 47) hF (by omega) dT_sendMessage_47 ?_
  refine jq_aload_n (pc := 48) hF 3 dT_sendMessage_48 rfl ?_
  refine Cg_T_19 (pc := 49) hF dT_sendMessage_49 ?_
  refine jq_iload (pc := 52) hF 1 dT_sendMessage_52 rfl ?_
  refine jq_iconst (pc := 54) hF dT_sendMessage_54 ic_2 ?_
  refine jq_iaddN (pc := 55) hF dT_sendMessage_55 ?_
  refine jq_aload_n (pc := 56) hF 3 dT_sendMessage_56 rfl ?_
  refine Cg_T_52 (pc := 57) hF dT_sendMessage_57 ?_
  refine Cg_T_110 (pc := 60) hF dT_sendMessage_60 ?_
  refine jq_iload_n (pc := 63) hF 2 dT_sendMessage_63 rfl ?_
  refine Cl_6 (pc := 64) hF (by omega) dT_sendMessage_64 ?_
  refine Cs_20 (pc := 65) hF (by omega) dT_sendMessage_65 ?_
  refine jq_aload_n (pc := 66) hF 3 dT_sendMessage_66 rfl ?_
  refine Cg_T_19 (pc := 67) hF dT_sendMessage_67 ?_
  refine jq_iload (pc := 70) hF 1 dT_sendMessage_70 rfl ?_
  refine jq_iconst (pc := 72) hF dT_sendMessage_72 ic_3 ?_
  refine jq_iaddN (pc := 73) hF dT_sendMessage_73 ?_
  refine jq_iload_n (pc := 74) hF 4 dT_sendMessage_74 rfl ?_
  refine jq_iconst (pc := 75) hF dT_sendMessage_75 ic_4 ?_
  refine jq_iremN (pc := 76) hF (by omega) (by decide) (by decide) dT_sendMessage_76 ?_
  refine Cs_20 (pc := 77) hF (by omega) dT_sendMessage_77 ?_
  refine jq_aload_n (pc := 78) hF 3 dT_sendMessage_78 rfl ?_
  refine Cg_T_19 (pc := 79) hF dT_sendMessage_79 ?_
  refine jq_iload (pc := 82) hF 1 dT_sendMessage_82 rfl ?_
  refine jq_iconst (pc := 84) hF dT_sendMessage_84 ic_4 ?_
  refine jq_iaddN (pc := 85) hF dT_sendMessage_85 ?_
  refine jq_iload (pc := 86) hF 0 dT_sendMessage_86 rfl ?_
  refine jq_iconst (pc := 88) hF dT_sendMessage_88 ic_m1 ?_
  have j108 : jJ l D (rmD 1) 6 X (wC a cI cZ (sU (sU (sU (sU σ 20 (6 * far + 0) (σ 22 (p / 4))) 20 (6 * far + 1) ((sU σ 20 (6 * far + 0) (σ 22 (p / 4))) 23 (p / 4))) 20 (6 * far + 2) ((sU (sU σ 20 (6 * far + 0) (σ 22 (p / 4))) 20 (6 * far + 1) ((sU σ 20 (6 * far + 0) (σ 22 (p / 4))) 23 (p / 4))) 6 (p / 4))) 20 (6 * far + 3) (nI (p % 4)))) 108 [(5, .int (σ 24 (p / 4))), (4, .int (nI (6 * far))), (3, .int (nI (p / 4))), (0, .ref (a 3)), (1, .int (nI p)), (2, .int (nI far))] [.int (if ¬ (σ 24 (p / 4) = -1) then (sU (sU (sU (sU σ 20 (6 * far + 0) (σ 22 (p / 4))) 20 (6 * far + 1) ((sU σ 20 (6 * far + 0) (σ 22 (p / 4))) 23 (p / 4))) 20 (6 * far + 2) ((sU (sU σ 20 (6 * far + 0) (σ 22 (p / 4))) 20 (6 * far + 1) ((sU σ 20 (6 * far + 0) (σ 22 (p / 4))) 23 (p / 4))) 6 (p / 4))) 20 (6 * far + 3) (nI (p % 4))) 18 (((nI (6)) * (σ 24 (p / 4))) + (nI (4))).toNatClampNeg else nI (0)), .int (nI (6 * far + 4)), .ref (a 20)] := by
    refine Cs_20 (pc := 108) hF (by omega) dT_sendMessage_108 ?_
    refine jq_aload_n (pc := 109) hF 3 dT_sendMessage_109 rfl ?_
    refine Cg_T_19 (pc := 110) hF dT_sendMessage_110 ?_
    refine jq_iload (pc := 113) hF 1 dT_sendMessage_113 rfl ?_
    refine jq_iconst (pc := 115) hF dT_sendMessage_115 ic_5 ?_
    refine jq_iaddN (pc := 116) hF dT_sendMessage_116 ?_
    refine jq_aload_n (pc := 117) hF 3 dT_sendMessage_117 rfl ?_
    refine jq_iload_n (pc := 118) hF 2 dT_sendMessage_118 rfl ?_
    refine jq_cVI (pc := 119) hF (As := [.int (nI (p / 4))]) (rest := [.int (nI (6 * far + 5)), .ref (a 20)]) (mT_isMarked l D a cI cZ (sU (sU (sU (sU (sU σ 20 (6 * far + 0) (σ 22 (p / 4))) 20 (6 * far + 1) ((sU σ 20 (6 * far + 0) (σ 22 (p / 4))) 23 (p / 4))) 20 (6 * far + 2) ((sU (sU σ 20 (6 * far + 0) (σ 22 (p / 4))) 20 (6 * far + 1) ((sU σ 20 (6 * far + 0) (σ 22 (p / 4))) 23 (p / 4))) 6 (p / 4))) 20 (6 * far + 3) (nI (p % 4))) 20 (6 * far + 4) (if ¬ (σ 24 (p / 4) = -1) then (sU (sU (sU (sU σ 20 (6 * far + 0) (σ 22 (p / 4))) 20 (6 * far + 1) ((sU σ 20 (6 * far + 0) (σ 22 (p / 4))) 23 (p / 4))) 20 (6 * far + 2) ((sU (sU σ 20 (6 * far + 0) (σ 22 (p / 4))) 20 (6 * far + 1) ((sU σ 20 (6 * far + 0) (σ 22 (p / 4))) 23 (p / 4))) 6 (p / 4))) 20 (6 * far + 3) (nI (p % 4))) 18 (((nI (6)) * (σ 24 (p / 4))) + (nI (4))).toNatClampNeg else nI (0))) (p / 4) (by omega) (((((hI.u (by decide)).u (by decide)).u (by decide)).u (by decide)).u (by decide))) (jG_v mL_T_159 mI_T_isMarked mS_T_isMarked mZ_T mC_T_isMarked) rfl rfl rfl dd_T_isMarked ⟨Nat.le_of_ble_eq_true rfl, Nat.le_of_ble_eq_true rfl⟩ 3 rfl rfl rfl rfl (Nat.le_of_ble_eq_true rfl) dT_sendMessage_119 ?_
    have j130 : jJ l D (rmD 1) 6 X (wC a cI cZ (sU (sU (sU (sU (sU σ 20 (6 * far + 0) (σ 22 (p / 4))) 20 (6 * far + 1) ((sU σ 20 (6 * far + 0) (σ 22 (p / 4))) 23 (p / 4))) 20 (6 * far + 2) ((sU (sU σ 20 (6 * far + 0) (σ 22 (p / 4))) 20 (6 * far + 1) ((sU σ 20 (6 * far + 0) (σ 22 (p / 4))) 23 (p / 4))) 6 (p / 4))) 20 (6 * far + 3) (nI (p % 4))) 20 (6 * far + 4) (if ¬ (σ 24 (p / 4) = -1) then (sU (sU (sU (sU σ 20 (6 * far + 0) (σ 22 (p / 4))) 20 (6 * far + 1) ((sU σ 20 (6 * far + 0) (σ 22 (p / 4))) 23 (p / 4))) 20 (6 * far + 2) ((sU (sU σ 20 (6 * far + 0) (σ 22 (p / 4))) 20 (6 * far + 1) ((sU σ 20 (6 * far + 0) (σ 22 (p / 4))) 23 (p / 4))) 6 (p / 4))) 20 (6 * far + 3) (nI (p % 4))) 18 (((nI (6)) * (σ 24 (p / 4))) + (nI (4))).toNatClampNeg else nI (0)))) 130 [(5, .int (σ 24 (p / 4))), (4, .int (nI (6 * far))), (3, .int (nI (p / 4))), (0, .ref (a 3)), (1, .int (nI p)), (2, .int (nI far))] [.int (bI ((cMarked (sU (sU (sU (sU (sU σ 20 (6 * far + 0) (σ 22 (p / 4))) 20 (6 * far + 1) ((sU σ 20 (6 * far + 0) (σ 22 (p / 4))) 23 (p / 4))) 20 (6 * far + 2) ((sU (sU σ 20 (6 * far + 0) (σ 22 (p / 4))) 20 (6 * far + 1) ((sU σ 20 (6 * far + 0) (σ 22 (p / 4))) 23 (p / 4))) 6 (p / 4))) 20 (6 * far + 3) (nI (p % 4))) 20 (6 * far + 4) (if ¬ (σ 24 (p / 4) = -1) then (sU (sU (sU (sU σ 20 (6 * far + 0) (σ 22 (p / 4))) 20 (6 * far + 1) ((sU σ 20 (6 * far + 0) (σ 22 (p / 4))) 23 (p / 4))) 20 (6 * far + 2) ((sU (sU σ 20 (6 * far + 0) (σ 22 (p / 4))) 20 (6 * far + 1) ((sU σ 20 (6 * far + 0) (σ 22 (p / 4))) 23 (p / 4))) 6 (p / 4))) 20 (6 * far + 3) (nI (p % 4))) 18 (((nI (6)) * (σ 24 (p / 4))) + (nI (4))).toNatClampNeg else nI (0))) (p / 4)))), .int (nI (6 * far + 5)), .ref (a 20)] := by
      refine Cs_20 (pc := 130) hF (by omega) dT_sendMessage_130 ?_
      refine jq_aload_n (pc := 131) hF 3 dT_sendMessage_131 rfl ?_
      refine Cg_T_22 (pc := 132) hF dT_sendMessage_132 ?_
      refine jq_iload_n (pc := 135) hF 5 dT_sendMessage_135 rfl ?_
      refine jq_iconst (pc := 136) hF dT_sendMessage_136 ic_1 ?_
      refine Cs_21 (pc := 137) hF (by omega) rfl dT_sendMessage_137 ?_
      exact jq_at (hk 138 _ dT_sendMessage_138) (congrArg (wC a cI cZ) (by rfl)) rfl rfl rfl
    refine jq_if_eqB (pc := 122) hF 129 dT_sendMessage_122 rfl (fun h122 => ?_) (fun h122 => ?_)
    · refine jq_iconst (pc := 129) hF dT_sendMessage_129 ic_0 ?_
      exact jq_at j130 rfl rfl rfl (by rw [h122]; rfl)
    · refine jq_iconst (pc := 125) hF dT_sendMessage_125 ic_1 ?_
      refine jq_goto (pc := 126) hF 130 dT_sendMessage_126 rfl ?_
      exact jq_at j130 rfl rfl rfl (by rw [h122]; rfl)
  refine jq_icmp_ne (pc := 89) hF 96 dT_sendMessage_89 rfl (fun h89 => ?_) (fun h89 => ?_)
  · refine jq_aload_n (pc := 96) hF 3 dT_sendMessage_96 rfl ?_
    refine Cg_T_11 (pc := 97) hF dT_sendMessage_97 ?_
    refine jq_bipush (pc := 100) hF dT_sendMessage_100 bi_6 ?_
    refine jq_iload (pc := 102) hF 0 dT_sendMessage_102 rfl ?_
    refine jq_imul (pc := 104) hF dT_sendMessage_104 ?_
    refine jq_iconst (pc := 105) hF dT_sendMessage_105 ic_4 ?_
    refine jq_iadd (pc := 106) hF dT_sendMessage_106 ?_
    refine CL_18 (pc := 107) hF (in6 ((hI.rp (b := p / 4) (by omega)).resolve_left h89) (by decide)) dT_sendMessage_107 ?_
    exact jq_at j108 rfl rfl rfl (by rw [if_pos h89])
  · refine jq_iconst (pc := 92) hF dT_sendMessage_92 ic_0 ?_
    refine jq_goto (pc := 93) hF 108 dT_sendMessage_93 rfl ?_
    exact jq_at j108 rfl rfl rfl (by rw [if_neg (show ¬ (¬ (σ 24 (p / 4) = -1)) by simp [h89])])
set_option maxHeartbeats 4000000 in
set_option maxRecDepth 100000 in
theorem mT_sendMessages (l : Launch) (D : va_G) (a : Nat → Nat) (cI cZ : ClassId) (σ : jS)  (hI : cInv σ) : jV l yT_sendMessages w_T_sendMessages (rmD 3) D (jTys cI cZ) [.ref (a 3)] (wC a cI cZ σ) (wC a cI cZ (cSends σ)) := by
  refine jV_of (ws' := jG) (by decide) rfl (Nat.le_of_ble_eq_true rfl) ?_
  intro X hF hk
  show jJ l D (rmD 3) 3 X (wC a cI cZ σ) 0 [(0, .ref (a 3))] []
  refine jq_iconst (pc := 0) hF dT_sendMessages_0 ic_4 ?_
  refine jq_aload_n (pc := 1) hF 0 dT_sendMessages_1 rfl ?_
  refine Cg_T_52 (pc := 2) hF dT_sendMessages_2 ?_
  refine Cg_T_90 (pc := 5) hF dT_sendMessages_5 ?_
  refine jq_top (nI (cNb σ)) (hI.nbl.2) ?_
  refine jq_imulN (pc := 8) hF dT_sendMessages_8 ?_
  refine jq_istore_n (pc := 9) hF [(1, .int (nI (4 * (cNb σ)))), (0, .ref (a 3))] dT_sendMessages_9 (Nat.le_of_ble_eq_true rfl) rfl ?_
  refine jq_iconst (pc := 10) hF dT_sendMessages_10 ic_0 ?_
  refine jq_istore_n (pc := 11) hF [(2, .int (nI 0)), (1, .int (nI (4 * (cNb σ)))), (0, .ref (a 3))] dT_sendMessages_11 (Nat.le_of_ble_eq_true rfl) rfl ?_
  have hnb := hI.nbl.1
  have hI1 : ∀ i, cInv (forN cSend1 σ i) := fun i => hI.of_fr (fr.n cSend1_fr _ i) (by decide)
  have lp12 : ∀ i, i ≤ 4 * cNb σ → jJ l D (rmD 3) 3 X (wC a cI cZ (forN cSend1 σ i)) 12 [(2, .int (nI i)), (1, .int (nI (4 * (cNb σ)))), (0, .ref (a 3))] [] := by
    refine loop_up (fun i hi ih => ?_)
    refine jq_iload_n (pc := 12) hF 0 dT_sendMessages_12 rfl ?_
    refine jq_iload_n (pc := 13) hF 1 dT_sendMessages_13 rfl ?_
    refine jq_icmp_geN (pc := 14) hF 57 (by omega) (by omega) dT_sendMessages_14 rfl (fun h14 => ?_) (fun h14 => ?_)
    · obtain rfl : i = 4 * cNb σ := by omega
      exact jq_at (hk 57 _ dT_sendMessages_57) (congrArg (wC a cI cZ) (by rfl)) rfl rfl rfl
    · refine jq_aload_n (pc := 17) hF 2 dT_sendMessages_17 rfl ?_
      refine Cg_T_52 (pc := 18) hF dT_sendMessages_18 ?_
      refine jq_iload_n (pc := 21) hF 0 dT_sendMessages_21 rfl ?_
      refine jq_cVI (pc := 22) hF (As := [.int (nI i)]) (rest := []) (mP_hasWholeWire l D a cI cZ (forN cSend1 σ i) (i) (by omega) (hI1 i)) (jG_v mL_T_124 mI_P_hasWholeWire mS_P_hasWholeWire mZ_P mC_P_hasWholeWire) rfl rfl rfl dd_P_hasWholeWire ⟨Nat.le_of_ble_eq_true rfl, Nat.le_of_ble_eq_true rfl⟩ 1 rfl rfl rfl rfl (Nat.le_of_ble_eq_true rfl) dT_sendMessages_22 ?_
      refine jq_if_eqB (pc := 25) hF 51 dT_sendMessages_25 rfl (fun h25 => ?_) (fun h25 => ?_)
      · refine jq_iincN (pc := 51) hF 0 [(2, .int (nI (i + 1))), (1, .int (nI (4 * (cNb σ)))), (0, .ref (a 3))] dT_sendMessages_51 rfl (Nat.le_of_ble_eq_true rfl) rfl ?_
        refine jq_goto (pc := 54) hF 12 dT_sendMessages_54 rfl ?_
        refine jq_sub [(2, .int (nI (i + 1))), (1, .int (nI (4 * (cNb σ)))), (0, .ref (a 3))] [0, 1, 2] rfl ?_
        exact jq_at (ih (by omega)) (congrArg (wC a cI cZ) (by first | exact if_neg (by rw [h25]; decide) | exact (if_pos h25).trans (if_pos h34) | exact (if_pos h25).trans (if_neg (fun e => e h34)))) rfl rfl rfl
      · refine jq_aload_n (pc := 28) hF 2 dT_sendMessages_28 rfl ?_
        refine jq_iload_n (pc := 29) hF 0 dT_sendMessages_29 rfl ?_
        refine jq_cVI (pc := 30) hF (As := [.int (nI i)]) (rest := []) (mT_roleNow l D a cI cZ (forN cSend1 σ i) (i) (by omega) (hI1 i)) (jG_v mL_T_143 mI_T_roleNow mS_T_roleNow mZ_T mC_T_roleNow) rfl rfl rfl dd_T_roleNow ⟨Nat.le_of_ble_eq_true rfl, Nat.le_of_ble_eq_true rfl⟩ 3 rfl rfl rfl rfl (Nat.le_of_ble_eq_true rfl) dT_sendMessages_30 ?_
        refine jq_iconst (pc := 33) hF dT_sendMessages_33 ic_2 ?_
        refine jq_icmp_ne (pc := 34) hF 51 dT_sendMessages_34 rfl (fun h34 => ?_) (fun h34 => ?_)
        · refine jq_iincN (pc := 51) hF 0 [(2, .int (nI (i + 1))), (1, .int (nI (4 * (cNb σ)))), (0, .ref (a 3))] dT_sendMessages_51 rfl (Nat.le_of_ble_eq_true rfl) rfl ?_
          refine jq_goto (pc := 54) hF 12 dT_sendMessages_54 rfl ?_
          refine jq_sub [(2, .int (nI (i + 1))), (1, .int (nI (4 * (cNb σ)))), (0, .ref (a 3))] [0, 1, 2] rfl ?_
          exact jq_at (ih (by omega)) (congrArg (wC a cI cZ) (by first | exact if_neg (by rw [h25]; decide) | exact (if_pos h25).trans (if_pos h34) | exact (if_pos h25).trans (if_neg (fun e => e h34)))) rfl rfl rfl
        · refine jq_aload_n (pc := 37) hF 2 dT_sendMessages_37 rfl ?_
          refine jq_iload_n (pc := 38) hF 0 dT_sendMessages_38 rfl ?_
          refine jq_aload_n (pc := 39) hF 2 dT_sendMessages_39 rfl ?_
          refine Cg_T_52 (pc := 40) hF dT_sendMessages_40 ?_
          refine Cg_T_152 (pc := 43) hF dT_sendMessages_43 ?_
          refine jq_iload_n (pc := 46) hF 0 dT_sendMessages_46 rfl ?_
          refine Cl_13 (pc := 47) hF (by omega) dT_sendMessages_47 ?_
          refine jq_top (nI (((forN cSend1 σ i) 13 (i)).toNatClampNeg)) (((hI1 i).wf (p := i) (by omega) (cWhole_ne h25)).cl (by decide) |>.2) ?_
          refine jq_cVV (pc := 48) hF (As := [.int (nI i), .int (nI (((forN cSend1 σ i) 13 (i)).toNatClampNeg))]) (rest := []) (mT_sendMessage l D a cI cZ (forN cSend1 σ i) (i) (((forN cSend1 σ i) 13 (i)).toNatClampNeg) (by omega) (((hI1 i).wf (p := i) (by omega) (cWhole_ne h25)).cl (by decide)).1 (hI1 i)) (jG_v mL_T_155 mI_T_sendMessage mS_T_sendMessage mZ_T mC_T_sendMessage) rfl rfl rfl dd_T_sendMessage ⟨Nat.le_of_ble_eq_true rfl, Nat.le_of_ble_eq_true rfl⟩ 3 rfl rfl rfl rfl (Nat.le_of_ble_eq_true rfl) dT_sendMessages_48 ?_
          refine jq_iincN (pc := 51) hF 0 [(2, .int (nI (i + 1))), (1, .int (nI (4 * (cNb σ)))), (0, .ref (a 3))] dT_sendMessages_51 rfl (Nat.le_of_ble_eq_true rfl) rfl ?_
          refine jq_goto (pc := 54) hF 12 dT_sendMessages_54 rfl ?_
          refine jq_sub [(2, .int (nI (i + 1))), (1, .int (nI (4 * (cNb σ)))), (0, .ref (a 3))] [0, 1, 2] rfl ?_
          exact jq_at (ih (by omega)) (congrArg (wC a cI cZ) (by first | exact if_neg (by rw [h25]; decide) | exact (if_pos h25).trans (if_pos h34) | exact (if_pos h25).trans (if_neg (fun e => e h34)))) rfl rfl rfl
  exact jq_at (lp12 0 (by omega)) rfl rfl rfl rfl
set_option maxHeartbeats 4000000 in
set_option maxRecDepth 100000 in
theorem mT_takeMessages (l : Launch) (D : va_G) (a : Nat → Nat) (cI cZ : ClassId) (σ : jS)   : jV l yT_takeMessages w_T_takeMessages (rmD 1) D (jTys cI cZ) [.ref (a 3)] (wC a cI cZ σ) (wC a cI cZ (cTake σ)) := by
  refine jV_of (ws' := jG) (by decide) rfl (Nat.le_of_ble_eq_true rfl) ?_
  intro X hF hk
  show jJ l D (rmD 1) 2 X (wC a cI cZ σ) 0 [(0, .ref (a 3))] []
  refine jq_iconst (pc := 0) hF dT_takeMessages_0 ic_0 ?_
  refine jq_istore_n (pc := 1) hF [(1, .int (nI 0)), (0, .ref (a 3))] dT_takeMessages_1 (Nat.le_of_ble_eq_true rfl) rfl ?_
  have lp2 : ∀ i, i ≤ 24 → jJ l D (rmD 1) 2 X (wC a cI cZ (forN cTake1 σ i)) 2 [(1, .int (nI i)), (0, .ref (a 3))] [] := by
    refine loop_up (fun i hi ih => ?_)
    refine jq_iload_n (pc := 2) hF 0 dT_takeMessages_2 rfl ?_
    refine jq_bipush (pc := 3) hF dT_takeMessages_3 bi_24 ?_
    refine jq_icmp_geN (pc := 5) hF 58 (by omega) (by omega) dT_takeMessages_5 rfl (fun h5 => ?_) (fun h5 => ?_)
    · obtain rfl : i = 24 := by omega
      exact jq_at (hk 58 _ dT_takeMessages_58) (congrArg (wC a cI cZ) (by rfl)) rfl rfl rfl
    · refine jq_aload_n (pc := 8) hF 1 dT_takeMessages_8 rfl ?_
      refine Cg_T_22 (pc := 9) hF dT_takeMessages_9 ?_
      refine jq_iload_n (pc := 12) hF 0 dT_takeMessages_12 rfl ?_
      refine Cl_21 (pc := 13) hF (by omega) dT_takeMessages_13 ?_
      refine jq_if_eq (pc := 14) hF 52 dT_takeMessages_14 rfl (fun h14 => ?_) (fun h14 => ?_)
      · refine jq_iincN (pc := 52) hF 0 [(1, .int (nI (i + 1))), (0, .ref (a 3))] dT_takeMessages_52 rfl (Nat.le_of_ble_eq_true rfl) rfl ?_
        refine jq_goto (pc := 55) hF 2 dT_takeMessages_55 rfl ?_
        refine jq_sub [(1, .int (nI (i + 1))), (0, .ref (a 3))] [0, 1] rfl ?_
        exact jq_at (ih (by omega)) (congrArg (wC a cI cZ) (by first | exact if_pos h14 | exact if_neg h14)) rfl rfl rfl
      · refine jq_aload_n (pc := 17) hF 1 dT_takeMessages_17 rfl ?_
        refine Cg_T_19 (pc := 18) hF dT_takeMessages_18 ?_
        refine jq_bipush (pc := 21) hF dT_takeMessages_21 bi_6 ?_
        refine jq_iload_n (pc := 23) hF 0 dT_takeMessages_23 rfl ?_
        refine jq_imulN (pc := 24) hF dT_takeMessages_24 ?_
        refine jq_aload_n (pc := 25) hF 1 dT_takeMessages_25 rfl ?_
        refine Cg_T_11 (pc := 26) hF dT_takeMessages_26 ?_
        refine jq_bipush (pc := 29) hF dT_takeMessages_29 bi_6 ?_
        refine jq_iload_n (pc := 31) hF 0 dT_takeMessages_31 rfl ?_
        refine jq_imulN (pc := 32) hF dT_takeMessages_32 ?_
        refine jq_bipush (pc := 33) hF dT_takeMessages_33 bi_6 ?_
        refine C_copy (pc := 35) hF (p := i) (by omega) (Nat.le_of_ble_eq_true rfl) (Nat.le_of_ble_eq_true rfl) dT_takeMessages_35 ?_
        refine jq_aload_n (pc := 38) hF 1 dT_takeMessages_38 rfl ?_
        refine Cg_T_15 (pc := 39) hF dT_takeMessages_39 ?_
        refine jq_iload_n (pc := 42) hF 0 dT_takeMessages_42 rfl ?_
        refine jq_iconst (pc := 43) hF dT_takeMessages_43 ic_1 ?_
        refine Cs_19 (pc := 44) hF (by omega) rfl dT_takeMessages_44 ?_
        refine jq_aload_n (pc := 45) hF 1 dT_takeMessages_45 rfl ?_
        refine Cg_T_22 (pc := 46) hF dT_takeMessages_46 ?_
        refine jq_iload_n (pc := 49) hF 0 dT_takeMessages_49 rfl ?_
        refine jq_iconst (pc := 50) hF dT_takeMessages_50 ic_0 ?_
        refine Cs_21 (pc := 51) hF (by omega) rfl dT_takeMessages_51 ?_
        refine jq_iincN (pc := 52) hF 0 [(1, .int (nI (i + 1))), (0, .ref (a 3))] dT_takeMessages_52 rfl (Nat.le_of_ble_eq_true rfl) rfl ?_
        refine jq_goto (pc := 55) hF 2 dT_takeMessages_55 rfl ?_
        refine jq_sub [(1, .int (nI (i + 1))), (0, .ref (a 3))] [0, 1] rfl ?_
        exact jq_at (ih (by omega)) (congrArg (wC a cI cZ) (by first | exact if_pos h14 | exact if_neg h14)) rfl rfl rfl
  exact jq_at (lp2 0 (by omega)) rfl rfl rfl rfl
set_option maxHeartbeats 4000000 in
set_option maxRecDepth 100000 in
theorem mT_passTime (l : Launch) (D : va_G) (a : Nat → Nat) (cI cZ : ClassId) (σ : jS)  (hI : cInv σ) : jV l yT_passTime w_T_passTime (rmD 5) D (jTys cI cZ) [.ref (a 3)] (wC a cI cZ σ) (wC a cI cZ (cTick σ)) := by
  refine jV_of (ws' := jG) (by decide) rfl (Nat.le_of_ble_eq_true rfl) ?_
  intro X hF hk
  show jJ l D (rmD 5) 1 X (wC a cI cZ σ) 0 [(0, .ref (a 3))] []
  have h0 : cInv (sU σ 3 2 (σ 3 2 + nI 1)) := hI.u (by decide)
  have h1 := cAge_inv h0
  have h2 := cRoots_inv h1
  have h3 := cPass_inv h2
  have h4 := cSends_inv h3
  have h5 := cTake_inv h4
  refine jq_aload_n (pc := 0) hF 0 dT_passTime_0 rfl ?_
  refine jq_dup (pc := 1) hF dT_passTime_1 rfl ?_
  refine Cg_T_69 (pc := 2) hF dT_passTime_2 ?_
  refine jq_iconst (pc := 5) hF dT_passTime_5 ic_1 ?_
  refine jq_iadd (pc := 6) hF dT_passTime_6 ?_
  refine Cp_T_69 (pc := 7) hF dT_passTime_7 ?_
  refine jq_aload_n (pc := 10) hF 0 dT_passTime_10 rfl ?_
  refine jq_cVV (pc := 11) hF (As := []) (rest := []) (mT_ageMessages l D a cI cZ (sU σ 3 2 ((σ 3 2) + (nI (1))))  ) (jG_v mL_T_72 mI_T_ageMessages mS_T_ageMessages mZ_T mC_T_ageMessages) rfl rfl rfl dd_T_ageMessages ⟨Nat.le_of_ble_eq_true rfl, Nat.le_of_ble_eq_true rfl⟩ 3 rfl rfl rfl rfl (Nat.le_of_ble_eq_true rfl) dT_passTime_11 ?_
  refine jq_aload_n (pc := 14) hF 0 dT_passTime_14 rfl ?_
  refine jq_cVV (pc := 15) hF (As := []) (rest := []) (mT_chooseRoots l D a cI cZ (cAge (sU σ 3 2 ((σ 3 2) + (nI (1)))))  h1) (jG_v mL_T_75 mI_T_chooseRoots mS_T_chooseRoots mZ_T mC_T_chooseRoots) rfl rfl rfl dd_T_chooseRoots ⟨Nat.le_of_ble_eq_true rfl, Nat.le_of_ble_eq_true rfl⟩ 3 rfl rfl rfl rfl (Nat.le_of_ble_eq_true rfl) dT_passTime_15 ?_
  refine jq_aload_n (pc := 18) hF 0 dT_passTime_18 rfl ?_
  refine jq_cVV (pc := 19) hF (As := []) (rest := []) (mT_passNotices l D a cI cZ (cRoots (cAge (sU σ 3 2 ((σ 3 2) + (nI (1))))))  h2) (jG_v mL_T_78 mI_T_passNotices mS_T_passNotices mZ_T mC_T_passNotices) rfl rfl rfl dd_T_passNotices ⟨Nat.le_of_ble_eq_true rfl, Nat.le_of_ble_eq_true rfl⟩ 3 rfl rfl rfl rfl (Nat.le_of_ble_eq_true rfl) dT_passTime_19 ?_
  refine jq_aload_n (pc := 22) hF 0 dT_passTime_22 rfl ?_
  refine jq_cVV (pc := 23) hF (As := []) (rest := []) (mT_sendMessages l D a cI cZ (cPass (cRoots (cAge (sU σ 3 2 ((σ 3 2) + (nI (1)))))))  h3) (jG_v mL_T_81 mI_T_sendMessages mS_T_sendMessages mZ_T mC_T_sendMessages) rfl rfl rfl dd_T_sendMessages ⟨Nat.le_of_ble_eq_true rfl, Nat.le_of_ble_eq_true rfl⟩ 3 rfl rfl rfl rfl (Nat.le_of_ble_eq_true rfl) dT_passTime_23 ?_
  refine jq_aload_n (pc := 26) hF 0 dT_passTime_26 rfl ?_
  refine jq_cVV (pc := 27) hF (As := []) (rest := []) (mT_takeMessages l D a cI cZ (cSends (cPass (cRoots (cAge (sU σ 3 2 ((σ 3 2) + (nI (1))))))))  ) (jG_v mL_T_84 mI_T_takeMessages mS_T_takeMessages mZ_T mC_T_takeMessages) rfl rfl rfl dd_T_takeMessages ⟨Nat.le_of_ble_eq_true rfl, Nat.le_of_ble_eq_true rfl⟩ 3 rfl rfl rfl rfl (Nat.le_of_ble_eq_true rfl) dT_passTime_27 ?_
  refine jq_aload_n (pc := 30) hF 0 dT_passTime_30 rfl ?_
  refine jq_cVV (pc := 31) hF (As := []) (rest := []) (mT_settle l D a cI cZ (cTake (cSends (cPass (cRoots (cAge (sU σ 3 2 ((σ 3 2) + (nI (1)))))))))  h5) (jG_v mL_T_87 mI_T_settle mS_T_settle mZ_T mC_T_settle) rfl rfl rfl dd_T_settle ⟨Nat.le_of_ble_eq_true rfl, Nat.le_of_ble_eq_true rfl⟩ 3 rfl rfl rfl rfl (Nat.le_of_ble_eq_true rfl) dT_passTime_31 ?_
  exact jq_at (hk 34 _ dT_passTime_34) (congrArg (wC a cI cZ) (by rfl)) rfl rfl rfl
set_option maxHeartbeats 4000000 in
set_option maxRecDepth 100000 in
theorem mN_forgetOldEntries (l : Launch) (D : va_G) (a : Nat → Nat) (cI cZ : ClassId) (σ : jS)  (hI : cInv σ) : jV l yN_forgetOldEntries w_N_forgetOldEntries (rmD 1) D (jTys cI cZ) [.ref (a 0)] (wC a cI cZ σ) (wC a cI cZ (cOld σ)) := by
  refine jV_of (ws' := jG) (by decide) rfl (Nat.le_of_ble_eq_true rfl) ?_
  intro X hF hk
  show jJ l D (rmD 1) 2 X (wC a cI cZ σ) 0 [(0, .ref (a 0))] []
  refine jq_iconst (pc := 0) hF dN_forgetOldEntries_0 ic_0 ?_
  refine jq_istore_n (pc := 1) hF [(1, .int (nI 0)), (0, .ref (a 0))] dN_forgetOldEntries_1 (Nat.le_of_ble_eq_true rfl) rfl ?_
  have hnb := hI.nbl.1
  have hI1 : ∀ i, cInv (forN cOld1 σ i) := fun i => hI.of_fr (fr.n cOld1_fr _ i) (by decide)
  have lp2 : ∀ i, i ≤ cNb σ → jJ l D (rmD 1) 2 X (wC a cI cZ (forN cOld1 σ i)) 2 [(1, .int (nI i)), (0, .ref (a 0))] [] := by
    refine loop_up (fun i hi ih => ?_)
    refine jq_iload_n (pc := 2) hF 0 dN_forgetOldEntries_2 rfl ?_
    refine jq_aload_n (pc := 3) hF 1 dN_forgetOldEntries_3 rfl ?_
    refine Cg_N_20 (pc := 4) hF dN_forgetOldEntries_4 ?_
    refine Cg_N_59 (pc := 7) hF dN_forgetOldEntries_7 ?_
    refine jq_top (nI (cNb σ)) ((by rw [(fr.n cOld1_fr σ i) 1 (by decide)]; exact hI.nbl.2)) ?_
    refine jq_icmp_geN (pc := 10) hF 59 (by omega) (by omega) dN_forgetOldEntries_10 rfl (fun h10 => ?_) (fun h10 => ?_)
    · obtain rfl : i = cNb σ := by omega
      exact jq_at (hk 59 _ dN_forgetOldEntries_59) (congrArg (wC a cI cZ) (by rfl)) rfl rfl rfl
    · refine jq_aload_n (pc := 13) hF 1 dN_forgetOldEntries_13 rfl ?_
      refine Cg_N_43 (pc := 14) hF dN_forgetOldEntries_14 ?_
      refine jq_iload_n (pc := 17) hF 0 dN_forgetOldEntries_17 rfl ?_
      refine jq_aload_n (pc := 18) hF 1 dN_forgetOldEntries_18 rfl ?_
      refine Cg_N_36 (pc := 19) hF dN_forgetOldEntries_19 ?_
      refine Cg_N_132 (pc := 22) hF dN_forgetOldEntries_22 ?_
      refine jq_aload_n (pc := 25) hF 1 dN_forgetOldEntries_25 rfl ?_
      refine Cg_N_36 (pc := 26) hF dN_forgetOldEntries_26 ?_
      refine jq_iload_n (pc := 29) hF 0 dN_forgetOldEntries_29 rfl ?_
      refine jq_cVI (pc := 30) hF (As := [.int (nI i)]) (rest := [.int ((forN cOld1 σ i) 3 2), .int (nI i), .ref (a 4)]) (mT_isMarked l D a cI cZ (forN cOld1 σ i) (i) (by omega) (hI1 i)) (jG_v mL_N_144 mI_T_isMarked mS_T_isMarked mZ_T mC_T_isMarked) rfl rfl rfl dd_T_isMarked ⟨Nat.le_of_ble_eq_true rfl, Nat.le_of_ble_eq_true rfl⟩ 3 rfl rfl rfl rfl (Nat.le_of_ble_eq_true rfl) dN_forgetOldEntries_30 ?_
      have j50 : jJ l D (rmD 1) 2 X (wC a cI cZ (forN cOld1 σ i)) 50 [(1, .int (nI i)), (0, .ref (a 0))] [.int (if ((cMarked (forN cOld1 σ i) (i))) = false then (forN cOld1 σ i) 0 0 else (forN cOld1 σ i) 3 1), .int ((forN cOld1 σ i) 3 2), .int (nI i), .ref (a 4)] := by
        refine jq_cVV (pc := 50) hF (As := [.int (nI i), .int ((forN cOld1 σ i) 3 2), .int (if ((cMarked (forN cOld1 σ i) (i))) = false then (forN cOld1 σ i) 0 0 else (forN cOld1 σ i) 3 1)]) (rest := []) (mB_forget l D a cI cZ (forN cOld1 σ i) (i) ((forN cOld1 σ i) 3 2) (if ((cMarked (forN cOld1 σ i) (i))) = false then (forN cOld1 σ i) 0 0 else (forN cOld1 σ i) 3 1) (by omega)) (jG_v mL_N_192 mI_B_forget mS_B_forget mZ_B mC_B_forget) rfl rfl rfl dd_B_forget ⟨Nat.le_of_ble_eq_true rfl, Nat.le_of_ble_eq_true rfl⟩ 4 rfl rfl rfl rfl (Nat.le_of_ble_eq_true rfl) dN_forgetOldEntries_50 ?_
        refine jq_iincN (pc := 53) hF 0 [(1, .int (nI (i + 1))), (0, .ref (a 0))] dN_forgetOldEntries_53 rfl (Nat.le_of_ble_eq_true rfl) rfl ?_
        refine jq_goto (pc := 56) hF 2 dN_forgetOldEntries_56 rfl ?_
        refine jq_sub [(1, .int (nI (i + 1))), (0, .ref (a 0))] [0, 1] rfl ?_
        exact jq_at (ih (by omega)) rfl rfl rfl rfl
      refine jq_if_eqB (pc := 33) hF 46 dN_forgetOldEntries_33 rfl (fun h33 => ?_) (fun h33 => ?_)
      · refine jq_aload_n (pc := 46) hF 1 dN_forgetOldEntries_46 rfl ?_
        refine Cg_N_13 (pc := 47) hF dN_forgetOldEntries_47 ?_
        exact jq_at j50 rfl rfl rfl (by rw [if_pos h33])
      · refine jq_aload_n (pc := 36) hF 1 dN_forgetOldEntries_36 rfl ?_
        refine Cg_N_36 (pc := 37) hF dN_forgetOldEntries_37 ?_
        refine Cg_N_189 (pc := 40) hF dN_forgetOldEntries_40 ?_
        refine jq_goto (pc := 43) hF 50 dN_forgetOldEntries_43 rfl ?_
        exact jq_at j50 rfl rfl rfl (by rw [if_neg (show ¬ (((cMarked (forN cOld1 σ i) (i))) = false) by simp [h33])])
  exact jq_at (lp2 0 (by omega)) rfl rfl rfl rfl
set_option maxHeartbeats 4000000 in
set_option maxRecDepth 100000 in
theorem mN_tick (l : Launch) (D : va_G) (a : Nat → Nat) (cI cZ : ClassId) (σ : jS) (n : Int32) (hI : cInv σ) : jI l yN_tick w_N_tick (rmD 6) D (jTys cI cZ) [.ref (a 0), .int (n)] (wC a cI cZ σ) (wC a cI cZ (if cWithin n (nI 0) (nI 60) = true then cTicks σ (n).toNatClampNeg else σ)) (if cWithin n (nI 0) (nI 60) = true then (cTicks σ (n).toNatClampNeg) 3 2 else -1) := by
  refine jI_of (ws' := jG) rfl (by decide) rfl (Nat.le_of_ble_eq_true rfl) ?_
  intro X hF hk
  show jJ l D (rmD 6) 3 X (wC a cI cZ σ) 0 [(0, .ref (a 0)), (1, .int (n))] []
  refine jq_iload_n (pc := 0) hF 1 dN_tick_0 rfl ?_
  refine jq_iconst (pc := 1) hF dN_tick_1 ic_0 ?_
  refine jq_bipush (pc := 2) hF dN_tick_2 bi_60 ?_
  refine jq_cSI (pc := 4) hF (As := [.int (n), .int (nI 0), .int (nI 60)]) (rest := []) (mN_isWithin l D a cI cZ σ (n) (nI (0)) (nI (60)) ) (jG_st mL_N_62 mT_N_isWithin mZ_N mC_N_isWithin) rfl rfl rfl dd_N_isWithin ⟨Nat.le_of_ble_eq_true rfl, Nat.le_of_ble_eq_true rfl⟩ rfl rfl (Nat.le_of_ble_eq_true rfl) dN_tick_4 ?_
  refine jq_if_neB (pc := 7) hF 12 dN_tick_7 rfl (fun h7 => ?_) (fun h7 => ?_)
  · obtain ⟨m, hm, rfl⟩ := cWithin_le (m := 60) (by decide) h7
    refine jq_iconst (pc := 12) hF dN_tick_12 ic_0 ?_
    refine jq_istore_n (pc := 13) hF [(2, .int (nI 0)), (0, .ref (a 0)), (1, .int (nI m))] dN_tick_13 (Nat.le_of_ble_eq_true rfl) rfl ?_
    have lp14 : ∀ i, i ≤ m → jJ l D (rmD 6) 3 X (wC a cI cZ (cTicks σ i)) 14 [(2, .int (nI i)), (0, .ref (a 0)), (1, .int (nI m))] [] := by
      refine loop_up (fun i hi ih => ?_)
      have hIi := cTicks_inv hI i
      refine jq_iload_n (pc := 14) hF 0 dN_tick_14 rfl ?_
      refine jq_iload_n (pc := 15) hF 2 dN_tick_15 rfl ?_
      refine jq_icmp_geN (pc := 16) hF 36 (by omega) (by omega) dN_tick_16 rfl (fun h16 => ?_) (fun h16 => ?_)
      · obtain rfl : i = m := by omega
        refine jq_aload_n (pc := 36) hF 1 dN_tick_36 rfl ?_
        refine Cg_N_36 (pc := 37) hF dN_tick_37 ?_
        refine Cg_N_132 (pc := 40) hF dN_tick_40 ?_
        exact jq_at (hk 43 _ dN_tick_43) (congrArg (wC a cI cZ) (by rw [if_pos h7, nI_clamp (by omega)])) rfl rfl (congrArg (fun z => [Value.int z]) (by rw [if_pos h7, nI_clamp (by omega)]))
      · refine jq_aload_n (pc := 19) hF 1 dN_tick_19 rfl ?_
        refine Cg_N_36 (pc := 20) hF dN_tick_20 ?_
        refine jq_cVV (pc := 23) hF (As := []) (rest := []) (mT_passTime l D a cI cZ (cTicks σ i)  hIi) (jG_v mL_N_126 mI_T_passTime mS_T_passTime mZ_T mC_T_passTime) rfl rfl rfl dd_T_passTime ⟨Nat.le_of_ble_eq_true rfl, Nat.le_of_ble_eq_true rfl⟩ 3 rfl rfl rfl rfl (Nat.le_of_ble_eq_true rfl) dN_tick_23 ?_
        refine jq_aload_n (pc := 26) hF 1 dN_tick_26 rfl ?_
        refine jq_cVV (pc := 27) hF (As := []) (rest := []) (mN_forgetOldEntries l D a cI cZ (cTick (cTicks σ i))  (cTick_inv hIi)) (jG_v mL_N_129 mI_N_forgetOldEntries mS_N_forgetOldEntries mZ_N mC_N_forgetOldEntries) rfl rfl rfl dd_N_forgetOldEntries ⟨Nat.le_of_ble_eq_true rfl, Nat.le_of_ble_eq_true rfl⟩ 0 rfl rfl rfl rfl (Nat.le_of_ble_eq_true rfl) dN_tick_27 ?_
        refine jq_iincN (pc := 30) hF 0 [(2, .int (nI (i + 1))), (0, .ref (a 0)), (1, .int (nI m))] dN_tick_30 rfl (Nat.le_of_ble_eq_true rfl) rfl ?_
        refine jq_goto (pc := 33) hF 14 dN_tick_33 rfl ?_
        refine jq_sub [(2, .int (nI (i + 1))), (0, .ref (a 0)), (1, .int (nI m))] [0, 1, 2] rfl ?_
        exact jq_at (ih (by omega)) (congrArg (wC a cI cZ) (by exact cTicks_s σ i)) rfl rfl rfl
    exact jq_at (lp14 0 (by omega)) rfl rfl rfl rfl
  · refine jq_iconst (pc := 10) hF dN_tick_10 ic_m1 ?_
    exact jq_at (hk 11 _ dN_tick_11) (congrArg (wC a cI cZ) (by simp [h7])) rfl rfl (congrArg (fun z => [Value.int z]) (by simp [h7]))
