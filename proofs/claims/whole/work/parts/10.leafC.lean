/-! leaves: walks by program (wip/whole/gen/specC1.py) -/
theorem nI1 : nI 1 = 1 := by decide +kernel
theorem bI1 {b : Bool} (h : b = true) : bI b = nI 1 := by rw [h]; decide +kernel
theorem bI0 {b : Bool} (h : b = false) : bI b = nI 0 := by rw [h]; decide +kernel
theorem cIsPlace_in {σ : jS} (hI : cInv σ) {p : Int32} (h : cIsPlace σ p = true) : vp_in p 24 := by
  obtain ⟨n, hn, e⟩ := hI.nb
  unfold cIsPlace at h
  rw [e, pk_mul] at h
  obtain ⟨k, rfl, hk⟩ := cWithin_in (m := 24) ⟨4 * n, by omega, rfl⟩ (by decide) h
  rw [nI_clamp (by omega)] at hk
  exact vp_in_nI (by omega) (by decide)
set_option maxHeartbeats 4000000 in
set_option maxRecDepth 100000 in
theorem mN_isWithin (l : Launch) (D : va_G) (a : Nat → Nat) (cI cZ : ClassId) (σ : jS) (n : Int32) (lo : Int32) (hi : Int32)  : jI l yN_isWithin w_N_isWithin (rmD 0) D (jTys cI cZ) [.int (n), .int (lo), .int (hi)] (wC a cI cZ σ) (wC a cI cZ (σ)) (bI (cWithin n lo hi)) := by
  refine jI_of (ws' := jG) (bI_nw _) (by decide) rfl (Nat.le_of_ble_eq_true rfl) ?_
  intro X hF hk
  show jJ l D (rmD 0) 3 X (wC a cI cZ σ) 0 [(0, .int (n)), (1, .int (lo)), (2, .int (hi))] []
  refine jq_iload_n (pc := 0) hF 0 dN_isWithin_0 rfl ?_
  refine jq_iload_n (pc := 1) hF 1 dN_isWithin_1 rfl ?_
  refine jq_icmp_lt (pc := 2) hF 14 dN_isWithin_2 rfl (fun h2 => ?_) (fun h2 => ?_)
  · refine jq_iconst (pc := 14) hF dN_isWithin_14 ic_0 ?_
    exact jq_at (hk 15 _ dN_isWithin_15) rfl rfl rfl (congrArg (fun z => [Value.int z]) (bI0 (by first | simp [cWithin, Int32.not_le.mpr h2] | simp [cWithin, Int32.not_le.mpr h7] | simp [cWithin, Int32.not_lt.mp h2, Int32.not_lt.mp h7])))
  · refine jq_iload_n (pc := 5) hF 0 dN_isWithin_5 rfl ?_
    refine jq_iload_n (pc := 6) hF 2 dN_isWithin_6 rfl ?_
    refine jq_icmp_gt (pc := 7) hF 14 dN_isWithin_7 rfl (fun h7 => ?_) (fun h7 => ?_)
    · refine jq_iconst (pc := 14) hF dN_isWithin_14 ic_0 ?_
      exact jq_at (hk 15 _ dN_isWithin_15) rfl rfl rfl (congrArg (fun z => [Value.int z]) (bI0 (by first | simp [cWithin, Int32.not_le.mpr h2] | simp [cWithin, Int32.not_le.mpr h7] | simp [cWithin, Int32.not_lt.mp h2, Int32.not_lt.mp h7])))
    · refine jq_iconst (pc := 10) hF dN_isWithin_10 ic_1 ?_
      refine jq_goto (pc := 11) hF 15 dN_isWithin_11 rfl ?_
      exact jq_at (hk 15 _ dN_isWithin_15) rfl rfl rfl (congrArg (fun z => [Value.int z]) (bI1 (by first | simp [cWithin, Int32.not_le.mpr h2] | simp [cWithin, Int32.not_le.mpr h7] | simp [cWithin, Int32.not_lt.mp h2, Int32.not_lt.mp h7])))
set_option maxHeartbeats 4000000 in
set_option maxRecDepth 100000 in
theorem mN_isNetwork (l : Launch) (D : va_G) (a : Nat → Nat) (cI cZ : ClassId) (σ : jS) (n : Int32)  : jI l yN_isNetwork w_N_isNetwork (rmD 1) D (jTys cI cZ) [.int (n)] (wC a cI cZ σ) (wC a cI cZ (σ)) (bI (cWithin n (nI 0) (nI 3))) := by
  refine jI_of (ws' := jG) (bI_nw _) (by decide) rfl (Nat.le_of_ble_eq_true rfl) ?_
  intro X hF hk
  show jJ l D (rmD 1) 1 X (wC a cI cZ σ) 0 [(0, .int (n))] []
  refine jq_iload_n (pc := 0) hF 0 dN_isNetwork_0 rfl ?_
  refine jq_iconst (pc := 1) hF dN_isNetwork_1 ic_0 ?_
  refine jq_iconst (pc := 2) hF dN_isNetwork_2 ic_3 ?_
  refine jq_cSI (pc := 3) hF (As := [.int (n), .int (nI 0), .int (nI 3)]) (rest := []) (mN_isWithin l D a cI cZ σ (n) (nI (0)) (nI (3)) ) (jG_st mL_N_62 mT_N_isWithin mZ_N mC_N_isWithin) rfl rfl rfl dd_N_isWithin ⟨Nat.le_of_ble_eq_true rfl, Nat.le_of_ble_eq_true rfl⟩ rfl rfl (Nat.le_of_ble_eq_true rfl) dN_isNetwork_3 ?_
  exact jq_at (hk 6 _ dN_isNetwork_6) rfl rfl rfl (congrArg (fun z => [Value.int z]) (by rfl))
set_option maxHeartbeats 4000000 in
set_option maxRecDepth 100000 in
theorem mN_hasBit (l : Launch) (D : va_G) (a : Nat → Nat) (cI cZ : ClassId) (σ : jS) (b : Int32) (n : Int32)  : jI l yN_hasBit w_N_hasBit (rmD 0) D (jTys cI cZ) [.int (b), .int (n)] (wC a cI cZ σ) (wC a cI cZ (σ)) (bI (cHasBit b n)) := by
  refine jI_of (ws' := jG) (bI_nw _) (by decide) rfl (Nat.le_of_ble_eq_true rfl) ?_
  intro X hF hk
  show jJ l D (rmD 0) 2 X (wC a cI cZ σ) 0 [(0, .int (b)), (1, .int (n))] []
  refine jq_iload_n (pc := 0) hF 0 dN_hasBit_0 rfl ?_
  refine jq_iload_n (pc := 1) hF 1 dN_hasBit_1 rfl ?_
  refine jq_ishr (pc := 2) hF dN_hasBit_2 ?_
  refine jq_iconst (pc := 3) hF dN_hasBit_3 ic_1 ?_
  refine jq_iand (pc := 4) hF dN_hasBit_4 ?_
  refine jq_iconst (pc := 5) hF dN_hasBit_5 ic_1 ?_
  refine jq_icmp_ne (pc := 6) hF 13 dN_hasBit_6 rfl (fun h6 => ?_) (fun h6 => ?_)
  · refine jq_iconst (pc := 13) hF dN_hasBit_13 ic_0 ?_
    exact jq_at (hk 14 _ dN_hasBit_14) rfl rfl rfl (congrArg (fun z => [Value.int z]) (bI0 (by simp [cHasBit, h6])))
  · refine jq_iconst (pc := 9) hF dN_hasBit_9 ic_1 ?_
    refine jq_goto (pc := 10) hF 14 dN_hasBit_10 rfl ?_
    exact jq_at (hk 14 _ dN_hasBit_14) rfl rfl rfl (congrArg (fun z => [Value.int z]) (bI1 (by simp [cHasBit, h6])))
set_option maxHeartbeats 4000000 in
set_option maxRecDepth 100000 in
theorem mP_isBridge (l : Launch) (D : va_G) (a : Nat → Nat) (cI cZ : ClassId) (σ : jS) (b : Int32)  : jI l yP_isBridge w_P_isBridge (rmD 1) D (jTys cI cZ) [.ref (a 1), .int (b)] (wC a cI cZ σ) (wC a cI cZ (σ)) (bI (cIsBridge σ b)) := by
  refine jI_of (ws' := jG) (bI_nw _) (by decide) rfl (Nat.le_of_ble_eq_true rfl) ?_
  intro X hF hk
  show jJ l D (rmD 1) 2 X (wC a cI cZ σ) 0 [(0, .ref (a 1)), (1, .int (b))] []
  refine jq_iload_n (pc := 0) hF 1 dP_isBridge_0 rfl ?_
  refine jq_iconst (pc := 1) hF dP_isBridge_1 ic_0 ?_
  refine jq_aload_n (pc := 2) hF 0 dP_isBridge_2 rfl ?_
  refine Cg_P_50 (pc := 3) hF dP_isBridge_3 ?_
  refine jq_iconst (pc := 6) hF dP_isBridge_6 ic_1 ?_
  refine jq_isub (pc := 7) hF dP_isBridge_7 ?_
  refine jq_cMI (pc := 8) hF (As := [.int (b), .int (nI 0), .int ((σ 1 0) - (nI (1)))]) (rest := []) (mN_isWithin l D a cI cZ σ (b) (nI (0)) ((σ 1 0) - (nI (1))) ) (jG_n mC_N_isWithin) List.mem_cons_self (List.mem_cons_of_mem _ mZ_N) (List.mem_cons_of_mem _ mT_N_isWithin) rfl rfl rfl dd_N_isWithin.2 ⟨Nat.le_of_ble_eq_true rfl, Nat.le_of_ble_eq_true rfl⟩ rfl rfl (Nat.le_of_ble_eq_true rfl) dP_isBridge_8 ?_
  exact jq_at (hk 11 _ dP_isBridge_11) rfl rfl rfl (congrArg (fun z => [Value.int z]) (by rfl))
set_option maxHeartbeats 4000000 in
set_option maxRecDepth 100000 in
theorem mP_isPlace (l : Launch) (D : va_G) (a : Nat → Nat) (cI cZ : ClassId) (σ : jS) (p : Int32)  : jI l yP_isPlace w_P_isPlace (rmD 1) D (jTys cI cZ) [.ref (a 1), .int (p)] (wC a cI cZ σ) (wC a cI cZ (σ)) (bI (cIsPlace σ p)) := by
  refine jI_of (ws' := jG) (bI_nw _) (by decide) rfl (Nat.le_of_ble_eq_true rfl) ?_
  intro X hF hk
  show jJ l D (rmD 1) 2 X (wC a cI cZ σ) 0 [(0, .ref (a 1)), (1, .int (p))] []
  refine jq_iload_n (pc := 0) hF 1 dP_isPlace_0 rfl ?_
  refine jq_iconst (pc := 1) hF dP_isPlace_1 ic_0 ?_
  refine jq_iconst (pc := 2) hF dP_isPlace_2 ic_4 ?_
  refine jq_aload_n (pc := 3) hF 0 dP_isPlace_3 rfl ?_
  refine Cg_P_50 (pc := 4) hF dP_isPlace_4 ?_
  refine jq_imul (pc := 7) hF dP_isPlace_7 ?_
  refine jq_iconst (pc := 8) hF dP_isPlace_8 ic_1 ?_
  refine jq_isub (pc := 9) hF dP_isPlace_9 ?_
  refine jq_cMI (pc := 10) hF (As := [.int (p), .int (nI 0), .int (((nI (4)) * (σ 1 0)) - (nI (1)))]) (rest := []) (mN_isWithin l D a cI cZ σ (p) (nI (0)) (((nI (4)) * (σ 1 0)) - (nI (1))) ) (jG_n mC_N_isWithin) List.mem_cons_self (List.mem_cons_of_mem _ mZ_N) (List.mem_cons_of_mem _ mT_N_isWithin) rfl rfl rfl dd_N_isWithin.2 ⟨Nat.le_of_ble_eq_true rfl, Nat.le_of_ble_eq_true rfl⟩ rfl rfl (Nat.le_of_ble_eq_true rfl) dP_isPlace_10 ?_
  exact jq_at (hk 13 _ dP_isPlace_13) rfl rfl rfl (congrArg (fun z => [Value.int z]) (by rfl))
set_option maxHeartbeats 4000000 in
set_option maxRecDepth 100000 in
theorem mP_isHost (l : Launch) (D : va_G) (a : Nat → Nat) (cI cZ : ClassId) (σ : jS) (h : Int32)  : jI l yP_isHost w_P_isHost (rmD 1) D (jTys cI cZ) [.ref (a 1), .int (h)] (wC a cI cZ σ) (wC a cI cZ (σ)) (bI (cIsHost σ h)) := by
  refine jI_of (ws' := jG) (bI_nw _) (by decide) rfl (Nat.le_of_ble_eq_true rfl) ?_
  intro X hF hk
  show jJ l D (rmD 1) 2 X (wC a cI cZ σ) 0 [(0, .ref (a 1)), (1, .int (h))] []
  refine jq_iload_n (pc := 0) hF 1 dP_isHost_0 rfl ?_
  refine jq_iconst (pc := 1) hF dP_isHost_1 ic_0 ?_
  refine jq_aload_n (pc := 2) hF 0 dP_isHost_2 rfl ?_
  refine Cg_P_56 (pc := 3) hF dP_isHost_3 ?_
  refine jq_iconst (pc := 6) hF dP_isHost_6 ic_1 ?_
  refine jq_isub (pc := 7) hF dP_isHost_7 ?_
  refine jq_cMI (pc := 8) hF (As := [.int (h), .int (nI 0), .int ((σ 1 2) - (nI (1)))]) (rest := []) (mN_isWithin l D a cI cZ σ (h) (nI (0)) ((σ 1 2) - (nI (1))) ) (jG_n mC_N_isWithin) List.mem_cons_self (List.mem_cons_of_mem _ mZ_N) (List.mem_cons_of_mem _ mT_N_isWithin) rfl rfl rfl dd_N_isWithin.2 ⟨Nat.le_of_ble_eq_true rfl, Nat.le_of_ble_eq_true rfl⟩ rfl rfl (Nat.le_of_ble_eq_true rfl) dP_isHost_8 ?_
  exact jq_at (hk 11 _ dP_isHost_11) rfl rfl rfl (congrArg (fun z => [Value.int z]) (by rfl))
set_option maxHeartbeats 4000000 in
set_option maxRecDepth 100000 in
theorem mP_isFree (l : Launch) (D : va_G) (a : Nat → Nat) (cI cZ : ClassId) (σ : jS) (p : Int32) (hI : cInv σ) : jI l yP_isFree w_P_isFree (rmD 2) D (jTys cI cZ) [.ref (a 1), .int (p)] (wC a cI cZ σ) (wC a cI cZ (σ)) (bI (cIsFree σ p)) := by
  refine jI_of (ws' := jG) (bI_nw _) (by decide) rfl (Nat.le_of_ble_eq_true rfl) ?_
  intro X hF hk
  show jJ l D (rmD 2) 2 X (wC a cI cZ σ) 0 [(0, .ref (a 1)), (1, .int (p))] []
  refine jq_aload_n (pc := 0) hF 0 dP_isFree_0 rfl ?_
  refine jq_iload_n (pc := 1) hF 1 dP_isFree_1 rfl ?_
  refine jq_cVI (pc := 2) hF (As := [.int (p)]) (rest := []) (mP_isPlace l D a cI cZ σ (p) ) (jG_v mL_P_63 mI_P_isPlace mS_P_isPlace mZ_P mC_P_isPlace) rfl rfl rfl dd_P_isPlace ⟨Nat.le_of_ble_eq_true rfl, Nat.le_of_ble_eq_true rfl⟩ 1 rfl rfl rfl rfl (Nat.le_of_ble_eq_true rfl) dP_isFree_2 ?_
  refine jq_if_eqB (pc := 5) hF 32 dP_isFree_5 rfl (fun h5 => ?_) (fun h5 => ?_)
  · refine jq_iconst (pc := 32) hF dP_isFree_32 ic_0 ?_
    exact jq_at (hk 33 _ dP_isFree_33) rfl rfl rfl (congrArg (fun z => [Value.int z]) (bI0 (by simp [cIsFree, h5])))
  · refine jq_aload_n (pc := 8) hF 0 dP_isFree_8 rfl ?_
    refine Cg_P_35 (pc := 9) hF dP_isFree_9 ?_
    refine jq_iload_n (pc := 12) hF 1 dP_isFree_12 rfl ?_
    refine CL_12 (pc := 13) hF (cIsPlace_in hI h5) dP_isFree_13 ?_
    refine jq_iconst (pc := 14) hF dP_isFree_14 ic_m1 ?_
    refine jq_icmp_ne (pc := 15) hF 32 dP_isFree_15 rfl (fun h15 => ?_) (fun h15 => ?_)
    · refine jq_iconst (pc := 32) hF dP_isFree_32 ic_0 ?_
      exact jq_at (hk 33 _ dP_isFree_33) rfl rfl rfl (congrArg (fun z => [Value.int z]) (bI0 (by simp [cIsFree, h5, h15])))
    · refine jq_aload_n (pc := 18) hF 0 dP_isFree_18 rfl ?_
      refine Cg_P_41 (pc := 19) hF dP_isFree_19 ?_
      refine jq_iload_n (pc := 22) hF 1 dP_isFree_22 rfl ?_
      refine CL_14 (pc := 23) hF (cIsPlace_in hI h5) dP_isFree_23 ?_
      refine jq_iconst (pc := 24) hF dP_isFree_24 ic_m1 ?_
      refine jq_icmp_ne (pc := 25) hF 32 dP_isFree_25 rfl (fun h25 => ?_) (fun h25 => ?_)
      · refine jq_iconst (pc := 32) hF dP_isFree_32 ic_0 ?_
        exact jq_at (hk 33 _ dP_isFree_33) rfl rfl rfl (congrArg (fun z => [Value.int z]) (bI0 (by simp [cIsFree, h5, h15, h25])))
      · refine jq_iconst (pc := 28) hF dP_isFree_28 ic_1 ?_
        refine jq_goto (pc := 29) hF 33 dP_isFree_29 rfl ?_
        exact jq_at (hk 33 _ dP_isFree_33) rfl rfl rfl (congrArg (fun z => [Value.int z]) (bI1 (by simp [cIsFree, h5, h15, h25])))
set_option maxHeartbeats 4000000 in
set_option maxRecDepth 100000 in
theorem mP_hasRouter (l : Launch) (D : va_G) (a : Nat → Nat) (cI cZ : ClassId) (σ : jS)   : jI l yP_hasRouter w_P_hasRouter (rmD 0) D (jTys cI cZ) [.ref (a 1)] (wC a cI cZ σ) (wC a cI cZ (σ)) (bI (cHasRouter σ)) := by
  refine jI_of (ws' := jG) (bI_nw _) (by decide) rfl (Nat.le_of_ble_eq_true rfl) ?_
  intro X hF hk
  show jJ l D (rmD 0) 1 X (wC a cI cZ σ) 0 [(0, .ref (a 1))] []
  refine jq_aload_n (pc := 0) hF 0 dP_hasRouter_0 rfl ?_
  refine Cg_P_31 (pc := 1) hF dP_hasRouter_1 ?_
  refine jq_iconst (pc := 4) hF dP_hasRouter_4 ic_m1 ?_
  refine jq_icmp_eq (pc := 5) hF 12 dP_hasRouter_5 rfl (fun h5 => ?_) (fun h5 => ?_)
  · refine jq_iconst (pc := 12) hF dP_hasRouter_12 ic_0 ?_
    exact jq_at (hk 13 _ dP_hasRouter_13) rfl rfl rfl (congrArg (fun z => [Value.int z]) (bI0 (by simp [cHasRouter, h5])))
  · refine jq_iconst (pc := 8) hF dP_hasRouter_8 ic_1 ?_
    refine jq_goto (pc := 9) hF 13 dP_hasRouter_9 rfl ?_
    exact jq_at (hk 13 _ dP_hasRouter_13) rfl rfl rfl (congrArg (fun z => [Value.int z]) (bI1 (by simp [cHasRouter, h5])))
set_option maxHeartbeats 4000000 in
set_option maxRecDepth 100000 in
theorem mP_hasWholeWire (l : Launch) (D : va_G) (a : Nat → Nat) (cI cZ : ClassId) (σ : jS) (p : Nat) (hp : p < 24) (hI : cInv σ) : jI l yP_hasWholeWire w_P_hasWholeWire (rmD 0) D (jTys cI cZ) [.ref (a 1), .int (nI p)] (wC a cI cZ σ) (wC a cI cZ (σ)) (bI (cWhole σ p)) := by
  refine jI_of (ws' := jG) (bI_nw _) (by decide) rfl (Nat.le_of_ble_eq_true rfl) ?_
  intro X hF hk
  show jJ l D (rmD 0) 2 X (wC a cI cZ σ) 0 [(0, .ref (a 1)), (1, .int (nI p))] []
  refine jq_aload_n (pc := 0) hF 0 dP_hasWholeWire_0 rfl ?_
  refine Cg_P_35 (pc := 1) hF dP_hasWholeWire_1 ?_
  refine jq_iload_n (pc := 4) hF 1 dP_hasWholeWire_4 rfl ?_
  refine Cl_12 (pc := 5) hF (by omega) dP_hasWholeWire_5 ?_
  refine jq_iconst (pc := 6) hF dP_hasWholeWire_6 ic_m1 ?_
  refine jq_icmp_eq (pc := 7) hF 28 dP_hasWholeWire_7 rfl (fun h7 => ?_) (fun h7 => ?_)
  · refine jq_iconst (pc := 28) hF dP_hasWholeWire_28 ic_0 ?_
    exact jq_at (hk 29 _ dP_hasWholeWire_29) rfl rfl rfl (congrArg (fun z => [Value.int z]) (bI0 (by simp [cWhole, h7])))
  · refine jq_aload_n (pc := 10) hF 0 dP_hasWholeWire_10 rfl ?_
    refine Cg_P_21 (pc := 11) hF dP_hasWholeWire_11 ?_
    refine jq_aload_n (pc := 14) hF 0 dP_hasWholeWire_14 rfl ?_
    refine Cg_P_35 (pc := 15) hF dP_hasWholeWire_15 ?_
    refine jq_iload_n (pc := 18) hF 1 dP_hasWholeWire_18 rfl ?_
    refine Cl_12 (pc := 19) hF (by omega) dP_hasWholeWire_19 ?_
    refine CL_9 (pc := 20) hF ((hI.wires hp).inn h7 (by decide)) dP_hasWholeWire_20 ?_
    refine jq_if_ne (pc := 21) hF 28 dP_hasWholeWire_21 rfl (fun h21 => ?_) (fun h21 => ?_)
    · refine jq_iconst (pc := 28) hF dP_hasWholeWire_28 ic_0 ?_
      exact jq_at (hk 29 _ dP_hasWholeWire_29) rfl rfl rfl (congrArg (fun z => [Value.int z]) (bI0 (by simp [cWhole, h7, h21])))
    · refine jq_iconst (pc := 24) hF dP_hasWholeWire_24 ic_1 ?_
      refine jq_goto (pc := 25) hF 29 dP_hasWholeWire_25 rfl ?_
      exact jq_at (hk 29 _ dP_hasWholeWire_29) rfl rfl rfl (congrArg (fun z => [Value.int z]) (bI1 (by simp [cWhole, h7, h21])))
set_option maxHeartbeats 4000000 in
set_option maxRecDepth 100000 in
theorem mP_isUp (l : Launch) (D : va_G) (a : Nat → Nat) (cI cZ : ClassId) (σ : jS) (p : Nat) (hp : p < 24) (hI : cInv σ) : jI l yP_isUp w_P_isUp (rmD 1) D (jTys cI cZ) [.ref (a 1), .int (nI p)] (wC a cI cZ σ) (wC a cI cZ (σ)) (bI (cIsUp σ p)) := by
  refine jI_of (ws' := jG) (bI_nw _) (by decide) rfl (Nat.le_of_ble_eq_true rfl) ?_
  intro X hF hk
  show jJ l D (rmD 1) 2 X (wC a cI cZ σ) 0 [(0, .ref (a 1)), (1, .int (nI p))] []
  refine jq_aload_n (pc := 0) hF 0 dP_isUp_0 rfl ?_
  refine Cg_P_41 (pc := 1) hF dP_isUp_1 ?_
  refine jq_iload_n (pc := 4) hF 1 dP_isUp_4 rfl ?_
  refine Cl_14 (pc := 5) hF (by omega) dP_isUp_5 ?_
  refine jq_iconst (pc := 6) hF dP_isUp_6 ic_m1 ?_
  refine jq_icmp_ne (pc := 7) hF 18 dP_isUp_7 rfl (fun h7 => ?_) (fun h7 => ?_)
  · refine jq_iconst (pc := 18) hF dP_isUp_18 ic_1 ?_
    refine jq_goto (pc := 19) hF 23 dP_isUp_19 rfl ?_
    exact jq_at (hk 23 _ dP_isUp_23) rfl rfl rfl (congrArg (fun z => [Value.int z]) (bI1 (by simp [cIsUp, h7])))
  · refine jq_aload_n (pc := 10) hF 0 dP_isUp_10 rfl ?_
    refine jq_iload_n (pc := 11) hF 1 dP_isUp_11 rfl ?_
    refine jq_cVI (pc := 12) hF (As := [.int (nI p)]) (rest := []) (mP_hasWholeWire l D a cI cZ σ (p) (by omega) hI) (jG_v mL_P_67 mI_P_hasWholeWire mS_P_hasWholeWire mZ_P mC_P_hasWholeWire) rfl rfl rfl dd_P_hasWholeWire ⟨Nat.le_of_ble_eq_true rfl, Nat.le_of_ble_eq_true rfl⟩ 1 rfl rfl rfl rfl (Nat.le_of_ble_eq_true rfl) dP_isUp_12 ?_
    refine jq_if_eqB (pc := 15) hF 22 dP_isUp_15 rfl (fun h15 => ?_) (fun h15 => ?_)
    · refine jq_iconst (pc := 22) hF dP_isUp_22 ic_0 ?_
      exact jq_at (hk 23 _ dP_isUp_23) rfl rfl rfl (congrArg (fun z => [Value.int z]) (bI0 (by simp [cIsUp, h7, h15])))
    · refine jq_iconst (pc := 18) hF dP_isUp_18 ic_1 ?_
      refine jq_goto (pc := 19) hF 23 dP_isUp_19 rfl ?_
      exact jq_at (hk 23 _ dP_isUp_23) rfl rfl rfl (congrArg (fun z => [Value.int z]) (bI1 (by simp [cIsUp, h7, h15])))
