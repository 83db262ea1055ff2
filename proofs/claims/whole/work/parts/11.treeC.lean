/-! walks by program (wip/whole/gen/specC2.py) -/
theorem in6 {x : Int32} {j : Nat} (h : okP 24 x) (hj : j < 6) : vp_in (nI 6 * x + nI j) 144 := by
  obtain ⟨k, hk, rfl⟩ := h
  rw [pk_mul, nI_add]
  exact vp_in_nI (by omega) (by decide)
set_option maxHeartbeats 4000000 in
set_option maxRecDepth 100000 in
theorem mP_addBridge (l : Launch) (D : va_G) (a : Nat → Nat) (cI cZ : ClassId) (σ : jS) (pr : Int32) (hb : vp_in (σ 1 0) 6) : jI l yP_addBridge w_P_addBridge (rmD 0) D (jTys cI cZ) [.ref (a 1), .int (pr)] (wC a cI cZ σ) (wC a cI cZ (cAddBridge σ pr)) (σ 1 0) := by
  refine jI_of (ws' := jG) rfl (by decide) rfl (Nat.le_of_ble_eq_true rfl) ?_
  intro X hF hk
  show jJ l D (rmD 0) 3 X (wC a cI cZ σ) 0 [(0, .ref (a 1)), (1, .int (pr))] []
  refine jq_aload_n (pc := 0) hF 0 dP_addBridge_0 rfl ?_
  refine Cg_P_50 (pc := 1) hF dP_addBridge_1 ?_
  refine jq_istore_n (pc := 4) hF [(2, .int (σ 1 0)), (0, .ref (a 1)), (1, .int (pr))] dP_addBridge_4 (Nat.le_of_ble_eq_true rfl) rfl ?_
  refine jq_aload_n (pc := 5) hF 1 dP_addBridge_5 rfl ?_
  refine Cg_P_9 (pc := 6) hF dP_addBridge_6 ?_
  refine jq_iload_n (pc := 9) hF 0 dP_addBridge_9 rfl ?_
  refine jq_bipush (pc := 10) hF dP_addBridge_10 bi_8 ?_
  refine jq_iload_n (pc := 12) hF 2 dP_addBridge_12 rfl ?_
  refine jq_imul (pc := 13) hF dP_addBridge_13 ?_
  refine jq_iload_n (pc := 14) hF 0 dP_addBridge_14 rfl ?_
  refine jq_iadd (pc := 15) hF dP_addBridge_15 ?_
  refine CS_6 (pc := 16) hF (by assumption) dP_addBridge_16 ?_
  refine jq_aload_n (pc := 17) hF 1 dP_addBridge_17 rfl ?_
  refine jq_dup (pc := 18) hF dP_addBridge_18 rfl ?_
  refine Cg_P_50 (pc := 19) hF dP_addBridge_19 ?_
  refine jq_iconst (pc := 22) hF dP_addBridge_22 ic_1 ?_
  refine jq_iadd (pc := 23) hF dP_addBridge_23 ?_
  refine Cp_P_50 (pc := 24) hF dP_addBridge_24 ?_
  refine jq_iload_n (pc := 27) hF 0 dP_addBridge_27 rfl ?_
  exact jq_at (hk 28 _ dP_addBridge_28) (congrArg (wC a cI cZ) (by rfl)) rfl rfl rfl
set_option maxHeartbeats 4000000 in
set_option maxRecDepth 100000 in
theorem mP_addWire (l : Launch) (D : va_G) (a : Nat → Nat) (cI cZ : ClassId) (σ : jS) (p : Int32) (q : Int32) (cost : Int32) (hw : vp_in (σ 1 1) 10) (hp : vp_in p 24) (hq : vp_in q 24) : jI l yP_addWire w_P_addWire (rmD 0) D (jTys cI cZ) [.ref (a 1), .int (p), .int (q), .int (cost)] (wC a cI cZ σ) (wC a cI cZ (cAddWire σ p q cost)) (σ 1 1) := by
  refine jI_of (ws' := jG) rfl (by decide) rfl (Nat.le_of_ble_eq_true rfl) ?_
  intro X hF hk
  show jJ l D (rmD 0) 5 X (wC a cI cZ σ) 0 [(0, .ref (a 1)), (1, .int (p)), (2, .int (q)), (3, .int (cost))] []
  refine jq_aload_n (pc := 0) hF 0 dP_addWire_0 rfl ?_
  refine Cg_P_53 (pc := 1) hF dP_addWire_1 ?_
  refine jq_istore (pc := 4) hF [(4, .int (σ 1 1)), (0, .ref (a 1)), (1, .int (p)), (2, .int (q)), (3, .int (cost))] dP_addWire_4 (Nat.le_of_ble_eq_true rfl) rfl ?_
  refine jq_aload_n (pc := 6) hF 1 dP_addWire_6 rfl ?_
  refine Cg_P_15 (pc := 7) hF dP_addWire_7 ?_
  refine jq_iload (pc := 10) hF 0 dP_addWire_10 rfl ?_
  refine jq_iload_n (pc := 12) hF 2 dP_addWire_12 rfl ?_
  refine CS_7 (pc := 13) hF (by assumption) dP_addWire_13 ?_
  refine jq_aload_n (pc := 14) hF 1 dP_addWire_14 rfl ?_
  refine Cg_P_18 (pc := 15) hF dP_addWire_15 ?_
  refine jq_iload (pc := 18) hF 0 dP_addWire_18 rfl ?_
  refine jq_iload_n (pc := 20) hF 4 dP_addWire_20 rfl ?_
  refine CS_8 (pc := 21) hF (by assumption) dP_addWire_21 ?_
  refine jq_aload_n (pc := 22) hF 1 dP_addWire_22 rfl ?_
  refine Cg_P_35 (pc := 23) hF dP_addWire_23 ?_
  refine jq_iload_n (pc := 26) hF 2 dP_addWire_26 rfl ?_
  refine jq_iload (pc := 27) hF 0 dP_addWire_27 rfl ?_
  refine CS_12 (pc := 29) hF (by assumption) dP_addWire_29 ?_
  refine jq_aload_n (pc := 30) hF 1 dP_addWire_30 rfl ?_
  refine Cg_P_35 (pc := 31) hF dP_addWire_31 ?_
  refine jq_iload_n (pc := 34) hF 3 dP_addWire_34 rfl ?_
  refine jq_iload (pc := 35) hF 0 dP_addWire_35 rfl ?_
  refine CS_12 (pc := 37) hF (by assumption) dP_addWire_37 ?_
  refine jq_aload_n (pc := 38) hF 1 dP_addWire_38 rfl ?_
  refine Cg_P_38 (pc := 39) hF dP_addWire_39 ?_
  refine jq_iload_n (pc := 42) hF 2 dP_addWire_42 rfl ?_
  refine jq_iload_n (pc := 43) hF 3 dP_addWire_43 rfl ?_
  refine CS_13 (pc := 44) hF (by assumption) dP_addWire_44 ?_
  refine jq_aload_n (pc := 45) hF 1 dP_addWire_45 rfl ?_
  refine Cg_P_38 (pc := 46) hF dP_addWire_46 ?_
  refine jq_iload_n (pc := 49) hF 3 dP_addWire_49 rfl ?_
  refine jq_iload_n (pc := 50) hF 2 dP_addWire_50 rfl ?_
  refine CS_13 (pc := 51) hF (by assumption) dP_addWire_51 ?_
  refine jq_aload_n (pc := 52) hF 1 dP_addWire_52 rfl ?_
  refine jq_dup (pc := 53) hF dP_addWire_53 rfl ?_
  refine Cg_P_53 (pc := 54) hF dP_addWire_54 ?_
  refine jq_iconst (pc := 57) hF dP_addWire_57 ic_1 ?_
  refine jq_iadd (pc := 58) hF dP_addWire_58 ?_
  refine Cp_P_53 (pc := 59) hF dP_addWire_59 ?_
  refine jq_iload (pc := 62) hF 0 dP_addWire_62 rfl ?_
  exact jq_at (hk 64 _ dP_addWire_64) (congrArg (wC a cI cZ) (by rfl)) rfl rfl rfl
set_option maxHeartbeats 4000000 in
set_option maxRecDepth 100000 in
theorem mP_addHost (l : Launch) (D : va_G) (a : Nat → Nat) (cI cZ : ClassId) (σ : jS) (p : Int32) (sn : Int32) (hh : vp_in (σ 1 2) 6) (hp : vp_in p 24) : jI l yP_addHost w_P_addHost (rmD 0) D (jTys cI cZ) [.ref (a 1), .int (p), .int (sn)] (wC a cI cZ σ) (wC a cI cZ (cAddHost σ p sn)) (σ 1 2) := by
  refine jI_of (ws' := jG) rfl (by decide) rfl (Nat.le_of_ble_eq_true rfl) ?_
  intro X hF hk
  show jJ l D (rmD 0) 4 X (wC a cI cZ σ) 0 [(0, .ref (a 1)), (1, .int (p)), (2, .int (sn))] []
  refine jq_aload_n (pc := 0) hF 0 dP_addHost_0 rfl ?_
  refine Cg_P_56 (pc := 1) hF dP_addHost_1 ?_
  refine jq_istore_n (pc := 4) hF [(3, .int (σ 1 2)), (0, .ref (a 1)), (1, .int (p)), (2, .int (sn))] dP_addHost_4 (Nat.le_of_ble_eq_true rfl) rfl ?_
  refine jq_aload_n (pc := 5) hF 1 dP_addHost_5 rfl ?_
  refine Cg_P_25 (pc := 6) hF dP_addHost_6 ?_
  refine jq_iload_n (pc := 9) hF 0 dP_addHost_9 rfl ?_
  refine jq_iload_n (pc := 10) hF 2 dP_addHost_10 rfl ?_
  refine CS_10 (pc := 11) hF (by assumption) dP_addHost_11 ?_
  refine jq_aload_n (pc := 12) hF 1 dP_addHost_12 rfl ?_
  refine Cg_P_28 (pc := 13) hF dP_addHost_13 ?_
  refine jq_iload_n (pc := 16) hF 0 dP_addHost_16 rfl ?_
  refine jq_iload_n (pc := 17) hF 3 dP_addHost_17 rfl ?_
  refine CS_11 (pc := 18) hF (by assumption) dP_addHost_18 ?_
  refine jq_aload_n (pc := 19) hF 1 dP_addHost_19 rfl ?_
  refine Cg_P_41 (pc := 20) hF dP_addHost_20 ?_
  refine jq_iload_n (pc := 23) hF 2 dP_addHost_23 rfl ?_
  refine jq_iload_n (pc := 24) hF 0 dP_addHost_24 rfl ?_
  refine CS_14 (pc := 25) hF (by assumption) dP_addHost_25 ?_
  refine jq_aload_n (pc := 26) hF 1 dP_addHost_26 rfl ?_
  refine jq_dup (pc := 27) hF dP_addHost_27 rfl ?_
  refine Cg_P_56 (pc := 28) hF dP_addHost_28 ?_
  refine jq_iconst (pc := 31) hF dP_addHost_31 ic_1 ?_
  refine jq_iadd (pc := 32) hF dP_addHost_32 ?_
  refine Cp_P_56 (pc := 33) hF dP_addHost_33 ?_
  refine jq_iload_n (pc := 36) hF 0 dP_addHost_36 rfl ?_
  exact jq_at (hk 37 _ dP_addHost_37) (congrArg (wC a cI cZ) (by rfl)) rfl rfl rfl
set_option maxHeartbeats 4000000 in
set_option maxRecDepth 100000 in
theorem mP_addRouter (l : Launch) (D : va_G) (a : Nat → Nat) (cI cZ : ClassId) (σ : jS) (p : Int32) (hp : vp_in p 24) : jV l yP_addRouter w_P_addRouter (rmD 0) D (jTys cI cZ) [.ref (a 1), .int (p)] (wC a cI cZ σ) (wC a cI cZ (cAddRouter σ p)) := by
  refine jV_of (ws' := jG) (by decide) rfl (Nat.le_of_ble_eq_true rfl) ?_
  intro X hF hk
  show jJ l D (rmD 0) 2 X (wC a cI cZ σ) 0 [(0, .ref (a 1)), (1, .int (p))] []
  refine jq_aload_n (pc := 0) hF 0 dP_addRouter_0 rfl ?_
  refine jq_iload_n (pc := 1) hF 1 dP_addRouter_1 rfl ?_
  refine Cp_P_31 (pc := 2) hF dP_addRouter_2 ?_
  refine jq_aload_n (pc := 5) hF 0 dP_addRouter_5 rfl ?_
  refine Cg_P_41 (pc := 6) hF dP_addRouter_6 ?_
  refine jq_iload_n (pc := 9) hF 1 dP_addRouter_9 rfl ?_
  refine jq_bipush (pc := 10) hF dP_addRouter_10 bi_6 ?_
  refine CS_14 (pc := 12) hF (by assumption) dP_addRouter_12 ?_
  exact jq_at (hk 13 _ dP_addRouter_13) (congrArg (wC a cI cZ) (by rfl)) rfl rfl rfl
set_option maxHeartbeats 4000000 in
set_option maxRecDepth 100000 in
theorem mW_makeAccess (l : Launch) (D : va_G) (a : Nat → Nat) (cI cZ : ClassId) (σ : jS) (p : Int32) (nw : Int32) (hp : vp_in p 24) : jV l yW_makeAccess w_W_makeAccess (rmD 0) D (jTys cI cZ) [.ref (a 2), .int (p), .int (nw)] (wC a cI cZ σ) (wC a cI cZ (cAccess σ p nw)) := by
  refine jV_of (ws' := jG) (by decide) rfl (Nat.le_of_ble_eq_true rfl) ?_
  intro X hF hk
  show jJ l D (rmD 0) 3 X (wC a cI cZ σ) 0 [(0, .ref (a 2)), (1, .int (p)), (2, .int (nw))] []
  refine jq_aload_n (pc := 0) hF 0 dW_makeAccess_0 rfl ?_
  refine Cg_W_9 (pc := 1) hF dW_makeAccess_1 ?_
  refine jq_iload_n (pc := 4) hF 1 dW_makeAccess_4 rfl ?_
  refine jq_iload_n (pc := 5) hF 2 dW_makeAccess_5 rfl ?_
  refine CS_15 (pc := 6) hF (by assumption) dW_makeAccess_6 ?_
  refine jq_aload_n (pc := 7) hF 0 dW_makeAccess_7 rfl ?_
  refine Cg_W_15 (pc := 8) hF dW_makeAccess_8 ?_
  refine jq_iload_n (pc := 11) hF 1 dW_makeAccess_11 rfl ?_
  refine jq_iconst (pc := 12) hF dW_makeAccess_12 ic_1 ?_
  refine jq_iload_n (pc := 13) hF 2 dW_makeAccess_13 rfl ?_
  refine jq_ishl (pc := 14) hF dW_makeAccess_14 ?_
  refine CS_16 (pc := 15) hF (by assumption) dW_makeAccess_15 ?_
  refine jq_aload_n (pc := 16) hF 0 dW_makeAccess_16 rfl ?_
  refine Cg_W_18 (pc := 17) hF dW_makeAccess_17 ?_
  refine jq_iload_n (pc := 20) hF 1 dW_makeAccess_20 rfl ?_
  refine jq_iconst (pc := 21) hF dW_makeAccess_21 ic_0 ?_
  refine CS_17 (pc := 22) hF (by assumption) rfl dW_makeAccess_22 ?_
  exact jq_at (hk 23 _ dW_makeAccess_23) (congrArg (wC a cI cZ) (by rfl)) rfl rfl rfl
set_option maxHeartbeats 4000000 in
set_option maxRecDepth 100000 in
theorem mW_makeTrunk (l : Launch) (D : va_G) (a : Nat → Nat) (cI cZ : ClassId) (σ : jS) (p : Int32) (nn : Int32) (mb : Int32) (hp : vp_in p 24) : jV l yW_makeTrunk w_W_makeTrunk (rmD 0) D (jTys cI cZ) [.ref (a 2), .int (p), .int (nn), .int (mb)] (wC a cI cZ σ) (wC a cI cZ (cTrunk σ p nn mb)) := by
  refine jV_of (ws' := jG) (by decide) rfl (Nat.le_of_ble_eq_true rfl) ?_
  intro X hF hk
  show jJ l D (rmD 0) 4 X (wC a cI cZ σ) 0 [(0, .ref (a 2)), (1, .int (p)), (2, .int (nn)), (3, .int (mb))] []
  refine jq_aload_n (pc := 0) hF 0 dW_makeTrunk_0 rfl ?_
  refine Cg_W_9 (pc := 1) hF dW_makeTrunk_1 ?_
  refine jq_iload_n (pc := 4) hF 1 dW_makeTrunk_4 rfl ?_
  refine jq_iload_n (pc := 5) hF 2 dW_makeTrunk_5 rfl ?_
  refine CS_15 (pc := 6) hF (by assumption) dW_makeTrunk_6 ?_
  refine jq_aload_n (pc := 7) hF 0 dW_makeTrunk_7 rfl ?_
  refine Cg_W_15 (pc := 8) hF dW_makeTrunk_8 ?_
  refine jq_iload_n (pc := 11) hF 1 dW_makeTrunk_11 rfl ?_
  refine jq_iload_n (pc := 12) hF 3 dW_makeTrunk_12 rfl ?_
  refine CS_16 (pc := 13) hF (by assumption) dW_makeTrunk_13 ?_
  refine jq_aload_n (pc := 14) hF 0 dW_makeTrunk_14 rfl ?_
  refine Cg_W_18 (pc := 15) hF dW_makeTrunk_15 ?_
  refine jq_iload_n (pc := 18) hF 1 dW_makeTrunk_18 rfl ?_
  refine jq_iconst (pc := 19) hF dW_makeTrunk_19 ic_1 ?_
  refine CS_17 (pc := 20) hF (by assumption) rfl dW_makeTrunk_20 ?_
  exact jq_at (hk 21 _ dW_makeTrunk_21) (congrArg (wC a cI cZ) (by rfl)) rfl rfl rfl
set_option maxHeartbeats 4000000 in
set_option maxRecDepth 100000 in
theorem mW_isMember (l : Launch) (D : va_G) (a : Nat → Nat) (cI cZ : ClassId) (σ : jS) (p : Nat) (nw : Int32) (hp : p < 24) : jI l yW_isMember w_W_isMember (rmD 0) D (jTys cI cZ) [.ref (a 2), .int (nI p), .int (nw)] (wC a cI cZ σ) (wC a cI cZ (σ)) (bI (cIsMember σ p nw)) := by
  refine jI_of (ws' := jG) (bI_nw _) (by decide) rfl (Nat.le_of_ble_eq_true rfl) ?_
  intro X hF hk
  show jJ l D (rmD 0) 3 X (wC a cI cZ σ) 0 [(0, .ref (a 2)), (1, .int (nI p)), (2, .int (nw))] []
  refine jq_aload_n (pc := 0) hF 0 dW_isMember_0 rfl ?_
  refine Cg_W_15 (pc := 1) hF dW_isMember_1 ?_
  refine jq_iload_n (pc := 4) hF 1 dW_isMember_4 rfl ?_
  refine Cl_16 (pc := 5) hF (by omega) dW_isMember_5 ?_
  refine jq_iload_n (pc := 6) hF 2 dW_isMember_6 rfl ?_
  refine jq_ishr (pc := 7) hF dW_isMember_7 ?_
  refine jq_iconst (pc := 8) hF dW_isMember_8 ic_1 ?_
  refine jq_iand (pc := 9) hF dW_isMember_9 ?_
  refine jq_iconst (pc := 10) hF dW_isMember_10 ic_1 ?_
  refine jq_icmp_ne (pc := 11) hF 18 dW_isMember_11 rfl (fun h11 => ?_) (fun h11 => ?_)
  · refine jq_iconst (pc := 18) hF dW_isMember_18 ic_0 ?_
    exact jq_at (hk 19 _ dW_isMember_19) rfl rfl rfl (congrArg (fun z => [Value.int z]) (bI0 (by simp [cIsMember, h11])))
  · refine jq_iconst (pc := 14) hF dW_isMember_14 ic_1 ?_
    refine jq_goto (pc := 15) hF 19 dW_isMember_15 rfl ?_
    exact jq_at (hk 19 _ dW_isMember_19) rfl rfl rfl (congrArg (fun z => [Value.int z]) (bI1 (by simp [cIsMember, h11])))
set_option maxHeartbeats 4000000 in
set_option maxRecDepth 100000 in
theorem mW_networkInside (l : Launch) (D : va_G) (a : Nat → Nat) (cI cZ : ClassId) (σ : jS) (p : Nat) (tag : Int32) (hp : p < 24) : jI l yW_networkInside w_W_networkInside (rmD 1) D (jTys cI cZ) [.ref (a 2), .int (nI p), .int (tag)] (wC a cI cZ σ) (wC a cI cZ (σ)) (cInside σ p tag) := by
  refine jI_of (ws' := jG) rfl (by decide) rfl (Nat.le_of_ble_eq_true rfl) ?_
  intro X hF hk
  show jJ l D (rmD 1) 4 X (wC a cI cZ σ) 0 [(0, .ref (a 2)), (1, .int (nI p)), (2, .int (tag))] []
  refine jq_iload_n (pc := 0) hF 2 dW_networkInside_0 rfl ?_
  refine jq_iconst (pc := 1) hF dW_networkInside_1 ic_m1 ?_
  refine jq_icmp_eq (pc := 2) hF 16 dW_networkInside_2 rfl (fun h2 => ?_) (fun h2 => ?_)
  · refine jq_iload_n (pc := 16) hF 2 dW_networkInside_16 rfl ?_
    refine jq_iconst (pc := 17) hF dW_networkInside_17 ic_m1 ?_
    have j31 : jJ l D (rmD 1) 4 X (wC a cI cZ σ) 31 [(0, .ref (a 2)), (1, .int (nI p)), (2, .int (tag))] [.int (if ¬ (tag = -1) then tag else σ 15 (p))] := by
      refine jq_istore_n (pc := 31) hF [(3, .int (if ¬ (tag = -1) then tag else σ 15 (p))), (0, .ref (a 2)), (1, .int (nI p)), (2, .int (tag))] dW_networkInside_31 (Nat.le_of_ble_eq_true rfl) rfl ?_
      refine jq_aload_n (pc := 32) hF 1 dW_networkInside_32 rfl ?_
      refine jq_iload_n (pc := 33) hF 2 dW_networkInside_33 rfl ?_
      refine jq_iload_n (pc := 34) hF 0 dW_networkInside_34 rfl ?_
      refine jq_cVI (pc := 35) hF (As := [.int (nI p), .int (if ¬ (tag = -1) then tag else σ 15 (p))]) (rest := []) (mW_isMember l D a cI cZ σ (p) (if ¬ (tag = -1) then tag else σ 15 (p)) (by omega)) (jG_v mL_W_28 mI_W_isMember mS_W_isMember mZ_W mC_W_isMember) rfl rfl rfl dd_W_isMember ⟨Nat.le_of_ble_eq_true rfl, Nat.le_of_ble_eq_true rfl⟩ 2 rfl rfl rfl rfl (Nat.le_of_ble_eq_true rfl) dW_networkInside_35 ?_
      refine jq_if_eqB (pc := 38) hF 45 dW_networkInside_38 rfl (fun h38 => ?_) (fun h38 => ?_)
      · refine jq_iconst (pc := 45) hF dW_networkInside_45 ic_m1 ?_
        exact jq_at (hk 46 _ dW_networkInside_46) rfl rfl rfl (congrArg (fun z => [Value.int z]) (by rw [cInside, if_neg (by simp [h2, h38])]; first | exact if_pos h38 | exact if_neg (by rw [h38]; decide)))
      · refine jq_iload_n (pc := 41) hF 0 dW_networkInside_41 rfl ?_
        refine jq_goto (pc := 42) hF 46 dW_networkInside_42 rfl ?_
        exact jq_at (hk 46 _ dW_networkInside_46) rfl rfl rfl (congrArg (fun z => [Value.int z]) (by rw [cInside, if_neg (by simp [h2, h38])]; first | exact if_pos h38 | exact if_neg (by rw [h38]; decide)))
    refine jq_icmp_ne (pc := 18) hF 30 dW_networkInside_18 rfl (fun h18 => ?_) (fun h18 => ?_)
    · refine jq_iload_n (pc := 30) hF 2 dW_networkInside_30 rfl ?_
      exact jq_at j31 rfl rfl rfl (by rw [if_pos h18])
    · refine jq_aload_n (pc := 21) hF 0 dW_networkInside_21 rfl ?_
      refine Cg_W_9 (pc := 22) hF dW_networkInside_22 ?_
      refine jq_iload_n (pc := 25) hF 1 dW_networkInside_25 rfl ?_
      refine Cl_15 (pc := 26) hF (by omega) dW_networkInside_26 ?_
      refine jq_goto (pc := 27) hF 31 dW_networkInside_27 rfl ?_
      exact jq_at j31 rfl rfl rfl (by rw [if_neg (show ¬ (¬ (tag = -1)) by simp [h18])])
  · refine jq_aload_n (pc := 5) hF 0 dW_networkInside_5 rfl ?_
    refine Cg_W_18 (pc := 6) hF dW_networkInside_6 ?_
    refine jq_iload_n (pc := 9) hF 1 dW_networkInside_9 rfl ?_
    refine Cl_17 (pc := 10) hF (by omega) dW_networkInside_10 ?_
    refine jq_if_ne (pc := 11) hF 16 dW_networkInside_11 rfl (fun h11 => ?_) (fun h11 => ?_)
    · refine jq_iload_n (pc := 16) hF 2 dW_networkInside_16 rfl ?_
      refine jq_iconst (pc := 17) hF dW_networkInside_17 ic_m1 ?_
      have j31 : jJ l D (rmD 1) 4 X (wC a cI cZ σ) 31 [(0, .ref (a 2)), (1, .int (nI p)), (2, .int (tag))] [.int (if ¬ (tag = -1) then tag else σ 15 (p))] := by
        refine jq_istore_n (pc := 31) hF [(3, .int (if ¬ (tag = -1) then tag else σ 15 (p))), (0, .ref (a 2)), (1, .int (nI p)), (2, .int (tag))] dW_networkInside_31 (Nat.le_of_ble_eq_true rfl) rfl ?_
        refine jq_aload_n (pc := 32) hF 1 dW_networkInside_32 rfl ?_
        refine jq_iload_n (pc := 33) hF 2 dW_networkInside_33 rfl ?_
        refine jq_iload_n (pc := 34) hF 0 dW_networkInside_34 rfl ?_
        refine jq_cVI (pc := 35) hF (As := [.int (nI p), .int (if ¬ (tag = -1) then tag else σ 15 (p))]) (rest := []) (mW_isMember l D a cI cZ σ (p) (if ¬ (tag = -1) then tag else σ 15 (p)) (by omega)) (jG_v mL_W_28 mI_W_isMember mS_W_isMember mZ_W mC_W_isMember) rfl rfl rfl dd_W_isMember ⟨Nat.le_of_ble_eq_true rfl, Nat.le_of_ble_eq_true rfl⟩ 2 rfl rfl rfl rfl (Nat.le_of_ble_eq_true rfl) dW_networkInside_35 ?_
        refine jq_if_eqB (pc := 38) hF 45 dW_networkInside_38 rfl (fun h38 => ?_) (fun h38 => ?_)
        · refine jq_iconst (pc := 45) hF dW_networkInside_45 ic_m1 ?_
          exact jq_at (hk 46 _ dW_networkInside_46) rfl rfl rfl (congrArg (fun z => [Value.int z]) (by rw [cInside, if_neg (by simp [h2, h11, h38])]; first | exact if_pos h38 | exact if_neg (by rw [h38]; decide)))
        · refine jq_iload_n (pc := 41) hF 0 dW_networkInside_41 rfl ?_
          refine jq_goto (pc := 42) hF 46 dW_networkInside_42 rfl ?_
          exact jq_at (hk 46 _ dW_networkInside_46) rfl rfl rfl (congrArg (fun z => [Value.int z]) (by rw [cInside, if_neg (by simp [h2, h11, h38])]; first | exact if_pos h38 | exact if_neg (by rw [h38]; decide)))
      refine jq_icmp_ne (pc := 18) hF 30 dW_networkInside_18 rfl (fun h18 => ?_) (fun h18 => ?_)
      · refine jq_iload_n (pc := 30) hF 2 dW_networkInside_30 rfl ?_
        exact jq_at j31 rfl rfl rfl (by rw [if_pos h18])
      · refine jq_aload_n (pc := 21) hF 0 dW_networkInside_21 rfl ?_
        refine Cg_W_9 (pc := 22) hF dW_networkInside_22 ?_
        refine jq_iload_n (pc := 25) hF 1 dW_networkInside_25 rfl ?_
        refine Cl_15 (pc := 26) hF (by omega) dW_networkInside_26 ?_
        refine jq_goto (pc := 27) hF 31 dW_networkInside_27 rfl ?_
        exact jq_at j31 rfl rfl rfl (by rw [if_neg (show ¬ (¬ (tag = -1)) by simp [h18])])
    · refine jq_iconst (pc := 14) hF dW_networkInside_14 ic_m1 ?_
      exact jq_at (hk 15 _ dW_networkInside_15) rfl rfl rfl (congrArg (fun z => [Value.int z]) (by simp [cInside, h2, h11]))
set_option maxHeartbeats 4000000 in
set_option maxRecDepth 100000 in
theorem mW_tagOutside (l : Launch) (D : va_G) (a : Nat → Nat) (cI cZ : ClassId) (σ : jS) (p : Nat) (nw : Int32) (hp : p < 24) : jI l yW_tagOutside w_W_tagOutside (rmD 0) D (jTys cI cZ) [.ref (a 2), .int (nI p), .int (nw)] (wC a cI cZ σ) (wC a cI cZ (σ)) (cTagOut σ p nw) := by
  refine jI_of (ws' := jG) rfl (by decide) rfl (Nat.le_of_ble_eq_true rfl) ?_
  intro X hF hk
  show jJ l D (rmD 0) 3 X (wC a cI cZ σ) 0 [(0, .ref (a 2)), (1, .int (nI p)), (2, .int (nw))] []
  refine jq_aload_n (pc := 0) hF 0 dW_tagOutside_0 rfl ?_
  refine Cg_W_9 (pc := 1) hF dW_tagOutside_1 ?_
  refine jq_iload_n (pc := 4) hF 1 dW_tagOutside_4 rfl ?_
  refine Cl_15 (pc := 5) hF (by omega) dW_tagOutside_5 ?_
  refine jq_iload_n (pc := 6) hF 2 dW_tagOutside_6 rfl ?_
  refine jq_icmp_ne (pc := 7) hF 14 dW_tagOutside_7 rfl (fun h7 => ?_) (fun h7 => ?_)
  · refine jq_iload_n (pc := 14) hF 2 dW_tagOutside_14 rfl ?_
    exact jq_at (hk 15 _ dW_tagOutside_15) rfl rfl rfl (congrArg (fun z => [Value.int z]) (by simp [cTagOut, h7]))
  · refine jq_iconst (pc := 10) hF dW_tagOutside_10 ic_m1 ?_
    refine jq_goto (pc := 11) hF 15 dW_tagOutside_11 rfl ?_
    exact jq_at (hk 15 _ dW_tagOutside_15) rfl rfl rfl (congrArg (fun z => [Value.int z]) (by simp [cTagOut, h7]))
set_option maxHeartbeats 4000000 in
set_option maxRecDepth 100000 in
theorem mB_portOf (l : Launch) (D : va_G) (a : Nat → Nat) (cI cZ : ClassId) (σ : jS) (b : Nat) (nw : Nat) (ad : Nat) (hb : b < 6) (hn : nw < 4) (ha : ad < 7) : jI l yB_portOf w_B_portOf (rmD 0) D (jTys cI cZ) [.ref (a 4), .int (nI b), .int (nI nw), .int (nI ad)] (wC a cI cZ σ) (wC a cI cZ (σ)) (cPort σ b nw ad) := by
  refine jI_of (ws' := jG) rfl (by decide) rfl (Nat.le_of_ble_eq_true rfl) ?_
  intro X hF hk
  show jJ l D (rmD 0) 4 X (wC a cI cZ σ) 0 [(0, .ref (a 4)), (1, .int (nI b)), (2, .int (nI nw)), (3, .int (nI ad))] []
  refine jq_aload_n (pc := 0) hF 0 dB_portOf_0 rfl ?_
  refine Cg_B_11 (pc := 1) hF dB_portOf_1 ?_
  refine jq_bipush (pc := 4) hF dB_portOf_4 bi_28 ?_
  refine jq_iload_n (pc := 6) hF 1 dB_portOf_6 rfl ?_
  refine jq_imulN (pc := 7) hF dB_portOf_7 ?_
  refine jq_bipush (pc := 8) hF dB_portOf_8 bi_7 ?_
  refine jq_iload_n (pc := 10) hF 2 dB_portOf_10 rfl ?_
  refine jq_imulN (pc := 11) hF dB_portOf_11 ?_
  refine jq_iaddN (pc := 12) hF dB_portOf_12 ?_
  refine jq_iload_n (pc := 13) hF 3 dB_portOf_13 rfl ?_
  refine jq_iaddN (pc := 14) hF dB_portOf_14 ?_
  refine Cl_31 (pc := 15) hF (by omega) dB_portOf_15 ?_
  exact jq_at (hk 16 _ dB_portOf_16) rfl rfl rfl (congrArg (fun z => [Value.int z]) (by rfl))
set_option maxHeartbeats 4000000 in
set_option maxRecDepth 100000 in
theorem mB_learn (l : Launch) (D : va_G) (a : Nat → Nat) (cI cZ : ClassId) (σ : jS) (p : Nat) (nw : Nat) (ad : Nat) (time : Int32) (hp : p < 24) (hn : nw < 4) (ha : ad < 7) : jV l yB_learn w_B_learn (rmD 0) D (jTys cI cZ) [.ref (a 4), .int (nI p), .int (nI nw), .int (nI ad), .int (time)] (wC a cI cZ σ) (wC a cI cZ (cLearn σ p nw ad time)) := by
  refine jV_of (ws' := jG) (by decide) rfl (Nat.le_of_ble_eq_true rfl) ?_
  intro X hF hk
  show jJ l D (rmD 0) 6 X (wC a cI cZ σ) 0 [(0, .ref (a 4)), (1, .int (nI p)), (2, .int (nI nw)), (3, .int (nI ad)), (4, .int (time))] []
  refine jq_bipush (pc := 0) hF dB_learn_0 bi_28 ?_
  refine jq_iload_n (pc := 2) hF 1 dB_learn_2 rfl ?_
  refine jq_iconst (pc := 3) hF dB_learn_3 ic_4 ?_
  refine jq_idivN (pc := 4) hF (by omega) (by decide) (by decide) dB_learn_4 ?_
  refine jq_imulN (pc := 5) hF dB_learn_5 ?_
  refine jq_bipush (pc := 6) hF dB_learn_6 bi_7 ?_
  refine jq_iload_n (pc := 8) hF 2 dB_learn_8 rfl ?_
  refine jq_imulN (pc := 9) hF dB_learn_9 ?_
  refine jq_iaddN (pc := 10) hF dB_learn_10 ?_
  refine jq_iload_n (pc := 11) hF 3 dB_learn_11 rfl ?_
  refine jq_iaddN (pc := 12) hF dB_learn_12 ?_
  refine jq_istore (pc := 13) hF [(5, .int (nI (28 * (p / 4) + (7 * nw) + ad))), (0, .ref (a 4)), (1, .int (nI p)), (2, .int (nI nw)), (3, .int (nI ad)), (4, .int (time))] dB_learn_13 (Nat.le_of_ble_eq_true rfl) rfl ?_
  refine jq_aload_n (pc := 15) hF 1 dB_learn_15 rfl ?_
  refine Cg_B_11 (pc := 16) hF dB_learn_16 ?_
  refine jq_iload (pc := 19) hF 0 dB_learn_19 rfl ?_
  refine jq_iload_n (pc := 21) hF 2 dB_learn_21 rfl ?_
  refine jq_iconst (pc := 22) hF dB_learn_22 ic_4 ?_
  refine jq_iremN (pc := 23) hF (by omega) (by decide) (by decide) dB_learn_23 ?_
  refine Cs_31 (pc := 24) hF (by omega) dB_learn_24 ?_
  refine jq_aload_n (pc := 25) hF 1 dB_learn_25 rfl ?_
  refine Cg_B_15 (pc := 26) hF dB_learn_26 ?_
  refine jq_iload (pc := 29) hF 0 dB_learn_29 rfl ?_
  refine jq_iload (pc := 31) hF 5 dB_learn_31 rfl ?_
  refine Cs_32 (pc := 33) hF (by omega) dB_learn_33 ?_
  exact jq_at (hk 34 _ dB_learn_34) (congrArg (wC a cI cZ) (by rfl)) rfl rfl rfl
set_option maxHeartbeats 4000000 in
set_option maxRecDepth 100000 in
theorem mB_countOf (l : Launch) (D : va_G) (a : Nat → Nat) (cI cZ : ClassId) (σ : jS) (b : Nat) (hb : b < 6) : jI l yB_countOf w_B_countOf (rmD 0) D (jTys cI cZ) [.ref (a 4), .int (nI b)] (wC a cI cZ σ) (wC a cI cZ (σ)) (nI (cCountN σ b 28)) := by
  refine jI_of (ws' := jG) rfl (by decide) rfl (Nat.le_of_ble_eq_true rfl) ?_
  intro X hF hk
  show jJ l D (rmD 0) 4 X (wC a cI cZ σ) 0 [(0, .ref (a 4)), (1, .int (nI b))] []
  refine jq_iconst (pc := 0) hF dB_countOf_0 ic_0 ?_
  refine jq_istore_n (pc := 1) hF [(2, .int (nI 0)), (0, .ref (a 4)), (1, .int (nI b))] dB_countOf_1 (Nat.le_of_ble_eq_true rfl) rfl ?_
  refine jq_bipush (pc := 2) hF dB_countOf_2 bi_28 ?_
  refine jq_iload_n (pc := 4) hF 2 dB_countOf_4 rfl ?_
  refine jq_imulN (pc := 5) hF dB_countOf_5 ?_
  refine jq_istore_n (pc := 6) hF [(3, .int (nI (28 * b))), (2, .int (nI 0)), (0, .ref (a 4)), (1, .int (nI b))] dB_countOf_6 (Nat.le_of_ble_eq_true rfl) rfl ?_
  have lp7 : ∀ i, i ≤ 28 → jJ l D (rmD 0) 4 X (wC a cI cZ (σ)) 7 [(3, .int (nI (28 * b + i))), (2, .int (nI (cCountN σ b i))), (0, .ref (a 4)), (1, .int (nI b))] [] := by
    refine loop_up (fun i hi ih => ?_)
    refine jq_iload_n (pc := 7) hF 0 dB_countOf_7 rfl ?_
    refine jq_bipush (pc := 8) hF dB_countOf_8 bi_28 ?_
    refine jq_iload_n (pc := 10) hF 3 dB_countOf_10 rfl ?_
    refine jq_imulN (pc := 11) hF dB_countOf_11 ?_
    refine jq_bipush (pc := 12) hF dB_countOf_12 bi_28 ?_
    refine jq_iaddN (pc := 14) hF dB_countOf_14 ?_
    refine jq_icmp_geN (pc := 15) hF 37 (by omega) (by omega) dB_countOf_15 rfl (fun h15 => ?_) (fun h15 => ?_)
    · obtain rfl : i = 28 := by omega
      refine jq_iload_n (pc := 37) hF 1 dB_countOf_37 rfl ?_
      exact jq_at (hk 38 _ dB_countOf_38) rfl rfl rfl (congrArg (fun z => [Value.int z]) (by rfl))
    · refine jq_aload_n (pc := 18) hF 2 dB_countOf_18 rfl ?_
      refine Cg_B_11 (pc := 19) hF dB_countOf_19 ?_
      refine jq_iload_n (pc := 22) hF 0 dB_countOf_22 rfl ?_
      refine Cl_31 (pc := 23) hF (by omega) dB_countOf_23 ?_
      refine jq_iconst (pc := 24) hF dB_countOf_24 ic_m1 ?_
      refine jq_icmp_eq (pc := 25) hF 31 dB_countOf_25 rfl (fun h25 => ?_) (fun h25 => ?_)
      · refine jq_iincN (pc := 31) hF 0 [(3, .int (nI (28 * b + i + 1))), (2, .int (nI (cCountN σ b i))), (0, .ref (a 4)), (1, .int (nI b))] dB_countOf_31 rfl (Nat.le_of_ble_eq_true rfl) rfl ?_
        refine jq_goto (pc := 34) hF 7 dB_countOf_34 rfl ?_
        refine jq_sub [(3, .int (nI (28 * b + i + 1))), (2, .int (nI (cCountN σ b i))), (0, .ref (a 4)), (1, .int (nI b))] [0, 1, 2, 3] rfl ?_
        exact jq_at (ih (by omega)) rfl rfl (by simp [cCountN, h15, h25, Nat.add_assoc]) rfl
      · refine jq_iincN (pc := 28) hF 1 [(2, .int (nI (cCountN σ b i + 1))), (3, .int (nI (28 * b + i))), (0, .ref (a 4)), (1, .int (nI b))] dB_countOf_28 rfl (Nat.le_of_ble_eq_true rfl) rfl ?_
        refine jq_iincN (pc := 31) hF 1 [(3, .int (nI (28 * b + i + 1))), (2, .int (nI (cCountN σ b i + 1))), (0, .ref (a 4)), (1, .int (nI b))] dB_countOf_31 rfl (Nat.le_of_ble_eq_true rfl) rfl ?_
        refine jq_goto (pc := 34) hF 7 dB_countOf_34 rfl ?_
        refine jq_sub [(3, .int (nI (28 * b + i + 1))), (2, .int (nI (cCountN σ b i + 1))), (0, .ref (a 4)), (1, .int (nI b))] [0, 1, 2, 3] rfl ?_
        exact jq_at (ih (by omega)) rfl rfl (by simp [cCountN, h15, h25, Nat.add_assoc]) rfl
  exact jq_at (lp7 0 (by omega)) rfl rfl rfl rfl
set_option maxHeartbeats 4000000 in
set_option maxRecDepth 100000 in
theorem mB_forget (l : Launch) (D : va_G) (a : Nat → Nat) (cI cZ : ClassId) (σ : jS) (b : Nat) (time : Int32) (span : Int32) (hb : b < 6) : jV l yB_forget w_B_forget (rmD 0) D (jTys cI cZ) [.ref (a 4), .int (nI b), .int (time), .int (span)] (wC a cI cZ σ) (wC a cI cZ (cForget σ b time span)) := by
  refine jV_of (ws' := jG) (by decide) rfl (Nat.le_of_ble_eq_true rfl) ?_
  intro X hF hk
  show jJ l D (rmD 0) 5 X (wC a cI cZ σ) 0 [(0, .ref (a 4)), (1, .int (nI b)), (2, .int (time)), (3, .int (span))] []
  refine jq_bipush (pc := 0) hF dB_forget_0 bi_28 ?_
  refine jq_iload_n (pc := 2) hF 1 dB_forget_2 rfl ?_
  refine jq_imulN (pc := 3) hF dB_forget_3 ?_
  refine jq_istore (pc := 4) hF [(4, .int (nI (28 * b))), (0, .ref (a 4)), (1, .int (nI b)), (2, .int (time)), (3, .int (span))] dB_forget_4 (Nat.le_of_ble_eq_true rfl) rfl ?_
  have lp6 : ∀ i, i ≤ 28 → jJ l D (rmD 0) 5 X (wC a cI cZ (forN (cForget1 b time span) σ i)) 6 [(4, .int (nI (28 * b + i))), (0, .ref (a 4)), (1, .int (nI b)), (2, .int (time)), (3, .int (span))] [] := by
    refine loop_up (fun i hi ih => ?_)
    refine jq_iload (pc := 6) hF 0 dB_forget_6 rfl ?_
    refine jq_bipush (pc := 8) hF dB_forget_8 bi_28 ?_
    refine jq_iload_n (pc := 10) hF 2 dB_forget_10 rfl ?_
    refine jq_imulN (pc := 11) hF dB_forget_11 ?_
    refine jq_bipush (pc := 12) hF dB_forget_12 bi_28 ?_
    refine jq_iaddN (pc := 14) hF dB_forget_14 ?_
    refine jq_icmp_geN (pc := 15) hF 45 (by omega) (by omega) dB_forget_15 rfl (fun h15 => ?_) (fun h15 => ?_)
    · obtain rfl : i = 28 := by omega
      exact jq_at (hk 45 _ dB_forget_45) (congrArg (wC a cI cZ) (by rfl)) rfl rfl rfl
    · refine jq_iload_n (pc := 18) hF 3 dB_forget_18 rfl ?_
      refine jq_aload_n (pc := 19) hF 1 dB_forget_19 rfl ?_
      refine Cg_B_15 (pc := 20) hF dB_forget_20 ?_
      refine jq_iload (pc := 23) hF 0 dB_forget_23 rfl ?_
      refine Cl_32 (pc := 25) hF (by omega) dB_forget_25 ?_
      refine jq_isub (pc := 26) hF dB_forget_26 ?_
      refine jq_iload_n (pc := 27) hF 4 dB_forget_27 rfl ?_
      refine jq_icmp_lt (pc := 28) hF 39 dB_forget_28 rfl (fun h28 => ?_) (fun h28 => ?_)
      · refine jq_iincN (pc := 39) hF 0 [(4, .int (nI (28 * b + i + 1))), (0, .ref (a 4)), (1, .int (nI b)), (2, .int (time)), (3, .int (span))] dB_forget_39 rfl (Nat.le_of_ble_eq_true rfl) rfl ?_
        refine jq_goto (pc := 42) hF 6 dB_forget_42 rfl ?_
        refine jq_sub [(4, .int (nI (28 * b + i + 1))), (0, .ref (a 4)), (1, .int (nI b)), (2, .int (time)), (3, .int (span))] [0, 1, 2, 3, 4] rfl ?_
        exact jq_at (ih (by omega)) (congrArg (wC a cI cZ) (by first | exact if_pos h28 | exact if_neg h28)) rfl rfl rfl
      · refine jq_aload_n (pc := 31) hF 1 dB_forget_31 rfl ?_
        refine Cg_B_11 (pc := 32) hF dB_forget_32 ?_
        refine jq_iload (pc := 35) hF 0 dB_forget_35 rfl ?_
        refine jq_iconst (pc := 37) hF dB_forget_37 ic_m1 ?_
        refine Cs_31 (pc := 38) hF (by omega) dB_forget_38 ?_
        refine jq_iincN (pc := 39) hF 0 [(4, .int (nI (28 * b + i + 1))), (0, .ref (a 4)), (1, .int (nI b)), (2, .int (time)), (3, .int (span))] dB_forget_39 rfl (Nat.le_of_ble_eq_true rfl) rfl ?_
        refine jq_goto (pc := 42) hF 6 dB_forget_42 rfl ?_
        refine jq_sub [(4, .int (nI (28 * b + i + 1))), (0, .ref (a 4)), (1, .int (nI b)), (2, .int (time)), (3, .int (span))] [0, 1, 2, 3, 4] rfl ?_
        exact jq_at (ih (by omega)) (congrArg (wC a cI cZ) (by first | exact if_pos h28 | exact if_neg h28)) rfl rfl rfl
  exact jq_at (lp6 0 (by omega)) rfl rfl rfl rfl
set_option maxHeartbeats 4000000 in
set_option maxRecDepth 100000 in
theorem mK_startCount (l : Launch) (D : va_G) (a : Nat → Nat) (cI cZ : ClassId) (σ : jS)   : jV l yK_startCount w_K_startCount (rmD 0) D (jTys cI cZ) [.ref (a 5)] (wC a cI cZ σ) (wC a cI cZ (sU σ 5 5 (nI 0))) := by
  refine jV_of (ws' := jG) (by decide) rfl (Nat.le_of_ble_eq_true rfl) ?_
  intro X hF hk
  show jJ l D (rmD 0) 1 X (wC a cI cZ σ) 0 [(0, .ref (a 5))] []
  refine jq_aload_n (pc := 0) hF 0 dK_startCount_0 rfl ?_
  refine jq_iconst (pc := 1) hF dK_startCount_1 ic_0 ?_
  refine Cp_K_34 (pc := 2) hF dK_startCount_2 ?_
  exact jq_at (hk 5 _ dK_startCount_5) (congrArg (wC a cI cZ) (by rfl)) rfl rfl rfl
set_option maxHeartbeats 4000000 in
set_option maxRecDepth 100000 in
theorem mT_dropMessage (l : Launch) (D : va_G) (a : Nat → Nat) (cI cZ : ClassId) (σ : jS) (p : Int32) (hp : vp_in p 24) : jV l yT_dropMessage w_T_dropMessage (rmD 0) D (jTys cI cZ) [.ref (a 3), .int (p)] (wC a cI cZ σ) (wC a cI cZ (cDrop σ p)) := by
  refine jV_of (ws' := jG) (by decide) rfl (Nat.le_of_ble_eq_true rfl) ?_
  intro X hF hk
  show jJ l D (rmD 0) 2 X (wC a cI cZ σ) 0 [(0, .ref (a 3)), (1, .int (p))] []
  refine jq_aload_n (pc := 0) hF 0 dT_dropMessage_0 rfl ?_
  refine Cg_T_15 (pc := 1) hF dT_dropMessage_1 ?_
  refine jq_iload_n (pc := 4) hF 1 dT_dropMessage_4 rfl ?_
  refine jq_iconst (pc := 5) hF dT_dropMessage_5 ic_0 ?_
  refine CS_19 (pc := 6) hF (by assumption) rfl dT_dropMessage_6 ?_
  exact jq_at (hk 7 _ dT_dropMessage_7) (congrArg (wC a cI cZ) (by rfl)) rfl rfl rfl
set_option maxHeartbeats 4000000 in
set_option maxRecDepth 100000 in
theorem mT_isMarked (l : Launch) (D : va_G) (a : Nat → Nat) (cI cZ : ClassId) (σ : jS) (b : Nat) (hb : b < 6) (hI : cInv σ) : jI l yT_isMarked w_T_isMarked (rmD 0) D (jTys cI cZ) [.ref (a 3), .int (nI b)] (wC a cI cZ σ) (wC a cI cZ (σ)) (bI (cMarked σ b)) := by
  refine jI_of (ws' := jG) (bI_nw _) (by decide) rfl (Nat.le_of_ble_eq_true rfl) ?_
  intro X hF hk
  show jJ l D (rmD 0) 2 X (wC a cI cZ σ) 0 [(0, .ref (a 3)), (1, .int (nI b))] []
  refine jq_aload_n (pc := 0) hF 0 dT_isMarked_0 rfl ?_
  refine Cg_T_31 (pc := 1) hF dT_isMarked_1 ?_
  refine jq_iload_n (pc := 4) hF 1 dT_isMarked_4 rfl ?_
  refine Cl_24 (pc := 5) hF (by omega) dT_isMarked_5 ?_
  refine jq_iconst (pc := 6) hF dT_isMarked_6 ic_m1 ?_
  refine jq_icmp_ne (pc := 7) hF 29 dT_isMarked_7 rfl (fun h7 => ?_) (fun h7 => ?_)
  · refine jq_aload_n (pc := 29) hF 0 dT_isMarked_29 rfl ?_
    refine Cg_T_11 (pc := 30) hF dT_isMarked_30 ?_
    refine jq_bipush (pc := 33) hF dT_isMarked_33 bi_6 ?_
    refine jq_aload_n (pc := 35) hF 0 dT_isMarked_35 rfl ?_
    refine Cg_T_31 (pc := 36) hF dT_isMarked_36 ?_
    refine jq_iload_n (pc := 39) hF 1 dT_isMarked_39 rfl ?_
    refine Cl_24 (pc := 40) hF (by omega) dT_isMarked_40 ?_
    refine jq_imul (pc := 41) hF dT_isMarked_41 ?_
    refine jq_iconst (pc := 42) hF dT_isMarked_42 ic_5 ?_
    refine jq_iadd (pc := 43) hF dT_isMarked_43 ?_
    refine CL_18 (pc := 44) hF (in6 ((hI.rp hb).resolve_left h7) (by decide)) dT_isMarked_44 ?_
    refine jq_iconst (pc := 45) hF dT_isMarked_45 ic_1 ?_
    refine jq_icmp_ne (pc := 46) hF 53 dT_isMarked_46 rfl (fun h46 => ?_) (fun h46 => ?_)
    · refine jq_iconst (pc := 53) hF dT_isMarked_53 ic_0 ?_
      exact jq_at (hk 54 _ dT_isMarked_54) rfl rfl rfl (congrArg (fun z => [Value.int z]) (bI0 (by simp [cMarked, h7, h46])))
    · refine jq_iconst (pc := 49) hF dT_isMarked_49 ic_1 ?_
      refine jq_goto (pc := 50) hF 54 dT_isMarked_50 rfl ?_
      exact jq_at (hk 54 _ dT_isMarked_54) rfl rfl rfl (congrArg (fun z => [Value.int z]) (bI1 (by simp [cMarked, h7, h46])))
  · refine jq_aload_n (pc := 10) hF 0 dT_isMarked_10 rfl ?_
    refine Cg_T_69 (pc := 11) hF dT_isMarked_11 ?_
    refine jq_aload_n (pc := 14) hF 0 dT_isMarked_14 rfl ?_
    refine Cg_T_43 (pc := 15) hF dT_isMarked_15 ?_
    refine jq_iload_n (pc := 18) hF 1 dT_isMarked_18 rfl ?_
    refine Cl_28 (pc := 19) hF (by omega) dT_isMarked_19 ?_
    refine jq_icmp_ge (pc := 20) hF 27 dT_isMarked_20 rfl (fun h20 => ?_) (fun h20 => ?_)
    · refine jq_iconst (pc := 27) hF dT_isMarked_27 ic_0 ?_
      exact jq_at (hk 28 _ dT_isMarked_28) rfl rfl rfl (congrArg (fun z => [Value.int z]) (bI0 (by simp [cMarked, h7, h20])))
    · refine jq_iconst (pc := 23) hF dT_isMarked_23 ic_1 ?_
      refine jq_goto (pc := 24) hF 28 dT_isMarked_24 rfl ?_
      exact jq_at (hk 28 _ dT_isMarked_28) rfl rfl rfl (congrArg (fun z => [Value.int z]) (bI1 (by simp [cMarked, h7, h20])))
set_option maxHeartbeats 4000000 in
set_option maxRecDepth 100000 in
theorem mT_isActive (l : Launch) (D : va_G) (a : Nat → Nat) (cI cZ : ClassId) (σ : jS) (r : Int32)  : jI l yT_isActive w_T_isActive (rmD 0) D (jTys cI cZ) [.int (r)] (wC a cI cZ σ) (wC a cI cZ (σ)) (bI (cActive r)) := by
  refine jI_of (ws' := jG) (bI_nw _) (by decide) rfl (Nat.le_of_ble_eq_true rfl) ?_
  intro X hF hk
  show jJ l D (rmD 0) 1 X (wC a cI cZ σ) 0 [(0, .int (r))] []
  refine jq_iload_n (pc := 0) hF 0 dT_isActive_0 rfl ?_
  refine jq_iconst (pc := 1) hF dT_isActive_1 ic_1 ?_
  refine jq_icmp_eq (pc := 2) hF 10 dT_isActive_2 rfl (fun h2 => ?_) (fun h2 => ?_)
  · refine jq_iconst (pc := 10) hF dT_isActive_10 ic_1 ?_
    refine jq_goto (pc := 11) hF 15 dT_isActive_11 rfl ?_
    exact jq_at (hk 15 _ dT_isActive_15) rfl rfl rfl (congrArg (fun z => [Value.int z]) (bI1 (by simp [cActive, h2])))
  · refine jq_iload_n (pc := 5) hF 0 dT_isActive_5 rfl ?_
    refine jq_iconst (pc := 6) hF dT_isActive_6 ic_2 ?_
    refine jq_icmp_ne (pc := 7) hF 14 dT_isActive_7 rfl (fun h7 => ?_) (fun h7 => ?_)
    · refine jq_iconst (pc := 14) hF dT_isActive_14 ic_0 ?_
      exact jq_at (hk 15 _ dT_isActive_15) rfl rfl rfl (congrArg (fun z => [Value.int z]) (bI0 (by simp [cActive, h2, h7])))
    · refine jq_iconst (pc := 10) hF dT_isActive_10 ic_1 ?_
      refine jq_goto (pc := 11) hF 15 dT_isActive_11 rfl ?_
      exact jq_at (hk 15 _ dT_isActive_15) rfl rfl rfl (congrArg (fun z => [Value.int z]) (bI1 (by simp [cActive, h2, h7])))
set_option maxHeartbeats 4000000 in
set_option maxRecDepth 100000 in
theorem mT_isWorthNotice (l : Launch) (D : va_G) (a : Nat → Nat) (cI cZ : ClassId) (σ : jS) (b : Int32) (a0 : Int32)  : jI l yT_isWorthNotice w_T_isWorthNotice (rmD 0) D (jTys cI cZ) [.int (b), .int (a0)] (wC a cI cZ σ) (wC a cI cZ (σ)) (bI (cWorth b a0)) := by
  refine jI_of (ws' := jG) (bI_nw _) (by decide) rfl (Nat.le_of_ble_eq_true rfl) ?_
  intro X hF hk
  show jJ l D (rmD 0) 4 X (wC a cI cZ σ) 0 [(0, .int (b)), (1, .int (a0))] []
  have j15 : jJ l D (rmD 0) 4 X (wC a cI cZ σ) 15 [(0, .int (b)), (1, .int (a0))] [.int (bI (decide (a0 = nI 3) && !decide (b = nI 3)))] := by
    refine jq_istore_n (pc := 15) hF [(2, .int (bI (decide (a0 = nI 3) && !decide (b = nI 3)))), (0, .int (b)), (1, .int (a0))] dT_isWorthNotice_15 (Nat.le_of_ble_eq_true rfl) rfl ?_
    have j31 : jJ l D (rmD 0) 4 X (wC a cI cZ σ) 31 [(2, .int (bI (decide (a0 = nI 3) && !decide (b = nI 3)))), (0, .int (b)), (1, .int (a0))] [.int (bI (!decide (b < nI 2) && !decide (nI 2 ≤ a0)))] := by
      refine jq_istore_n (pc := 31) hF [(3, .int (bI (!decide (b < nI 2) && !decide (nI 2 ≤ a0)))), (2, .int (bI (decide (a0 = nI 3) && !decide (b = nI 3)))), (0, .int (b)), (1, .int (a0))] dT_isWorthNotice_31 (Nat.le_of_ble_eq_true rfl) rfl ?_
      refine jq_iload_n (pc := 32) hF 1 dT_isWorthNotice_32 rfl ?_
      refine jq_if_neB (pc := 33) hF 40 dT_isWorthNotice_33 rfl (fun h33 => ?_) (fun h33 => ?_)
      · refine jq_iconst (pc := 40) hF dT_isWorthNotice_40 ic_1 ?_
        refine jq_goto (pc := 41) hF 45 dT_isWorthNotice_41 rfl ?_
        exact jq_at (hk 45 _ dT_isWorthNotice_45) rfl rfl rfl (congrArg (fun z => [Value.int z]) (bI1 (by simp [cWorth, h33])))
      · refine jq_iload_n (pc := 36) hF 0 dT_isWorthNotice_36 rfl ?_
        refine jq_if_eqB (pc := 37) hF 44 dT_isWorthNotice_37 rfl (fun h37 => ?_) (fun h37 => ?_)
        · refine jq_iconst (pc := 44) hF dT_isWorthNotice_44 ic_0 ?_
          exact jq_at (hk 45 _ dT_isWorthNotice_45) rfl rfl rfl (congrArg (fun z => [Value.int z]) (bI0 (by simp [cWorth, h33, h37])))
        · refine jq_iconst (pc := 40) hF dT_isWorthNotice_40 ic_1 ?_
          refine jq_goto (pc := 41) hF 45 dT_isWorthNotice_41 rfl ?_
          exact jq_at (hk 45 _ dT_isWorthNotice_45) rfl rfl rfl (congrArg (fun z => [Value.int z]) (bI1 (by simp [cWorth, h33, h37])))
    refine jq_iload_n (pc := 16) hF 1 dT_isWorthNotice_16 rfl ?_
    refine jq_iconst (pc := 17) hF dT_isWorthNotice_17 ic_2 ?_
    refine jq_icmp_lt (pc := 18) hF 30 dT_isWorthNotice_18 rfl (fun h18 => ?_) (fun h18 => ?_)
    · refine jq_iconst (pc := 30) hF dT_isWorthNotice_30 ic_0 ?_
      exact jq_at j31 rfl rfl rfl (congrArg (fun z => Value.int z :: []) (bI0 (by simp [h18])))
    · refine jq_iload_n (pc := 21) hF 2 dT_isWorthNotice_21 rfl ?_
      refine jq_iconst (pc := 22) hF dT_isWorthNotice_22 ic_2 ?_
      refine jq_icmp_ge (pc := 23) hF 30 dT_isWorthNotice_23 rfl (fun h23 => ?_) (fun h23 => ?_)
      · refine jq_iconst (pc := 30) hF dT_isWorthNotice_30 ic_0 ?_
        exact jq_at j31 rfl rfl rfl (congrArg (fun z => Value.int z :: []) (bI0 (by simp [h18, h23])))
      · refine jq_iconst (pc := 26) hF dT_isWorthNotice_26 ic_1 ?_
        refine jq_goto (pc := 27) hF 31 dT_isWorthNotice_27 rfl ?_
        exact jq_at j31 rfl rfl rfl (congrArg (fun z => Value.int z :: []) (bI1 (by simp [h18, h23])))
  refine jq_iload_n (pc := 0) hF 1 dT_isWorthNotice_0 rfl ?_
  refine jq_iconst (pc := 1) hF dT_isWorthNotice_1 ic_3 ?_
  refine jq_icmp_ne (pc := 2) hF 14 dT_isWorthNotice_2 rfl (fun h2 => ?_) (fun h2 => ?_)
  · refine jq_iconst (pc := 14) hF dT_isWorthNotice_14 ic_0 ?_
    exact jq_at j15 rfl rfl rfl (congrArg (fun z => Value.int z :: []) (bI0 (by simp [h2])))
  · refine jq_iload_n (pc := 5) hF 0 dT_isWorthNotice_5 rfl ?_
    refine jq_iconst (pc := 6) hF dT_isWorthNotice_6 ic_3 ?_
    refine jq_icmp_eq (pc := 7) hF 14 dT_isWorthNotice_7 rfl (fun h7 => ?_) (fun h7 => ?_)
    · refine jq_iconst (pc := 14) hF dT_isWorthNotice_14 ic_0 ?_
      exact jq_at j15 rfl rfl rfl (congrArg (fun z => Value.int z :: []) (bI0 (by simp [h2, h7])))
    · refine jq_iconst (pc := 10) hF dT_isWorthNotice_10 ic_1 ?_
      refine jq_goto (pc := 11) hF 15 dT_isWorthNotice_11 rfl ?_
      exact jq_at j15 rfl rfl rfl (congrArg (fun z => Value.int z :: []) (bI1 (by simp [h2, h7])))
set_option maxHeartbeats 4000000 in
set_option maxRecDepth 100000 in
theorem mT_rank (l : Launch) (D : va_G) (a : Nat → Nat) (cI cZ : ClassId) (σ : jS) (r : Int64) (c : Int64) (s0 : Int64) (p : Int64)  : jL l yT_rank w_T_rank (rmD 0) D (jTys cI cZ) [.long (r), .long (c), .long (s0), .long (p)] (wC a cI cZ σ) (wC a cI cZ (σ)) (cRank r c s0 p) := by
  refine jL_of (ws' := jG) (by decide) rfl (Nat.le_of_ble_eq_true rfl) ?_
  intro X hF hk
  show jJ l D (rmD 0) 8 X (wC a cI cZ σ) 0 [(0, .long (r)), (2, .long (c)), (4, .long (s0)), (6, .long (p))] []
  refine jq_lload_n (pc := 0) hF 0 dT_rank_0 rfl ?_
  refine jq_bipush (pc := 1) hF dT_rank_1 bi_20 ?_
  refine jq_lshl (pc := 3) hF dT_rank_3 rfl ?_
  refine jq_lload_n (pc := 4) hF 1 dT_rank_4 rfl ?_
  refine jq_lor (pc := 5) hF dT_rank_5 ?_
  refine jq_bipush (pc := 6) hF dT_rank_6 bi_6 ?_
  refine jq_lshl (pc := 8) hF dT_rank_8 rfl ?_
  refine jq_lload (pc := 9) hF 2 dT_rank_9 rfl ?_
  refine jq_lor (pc := 11) hF dT_rank_11 ?_
  refine jq_iconst (pc := 12) hF dT_rank_12 ic_2 ?_
  refine jq_lshl (pc := 13) hF dT_rank_13 rfl ?_
  refine jq_lload (pc := 14) hF 3 dT_rank_14 rfl ?_
  refine jq_lor (pc := 16) hF dT_rank_16 ?_
  exact jq_at (hk 17 _ dT_rank_17) rfl rfl rfl (congrArg (fun z => [Value.long z]) (by rfl))
set_option maxHeartbeats 4000000 in
set_option maxRecDepth 100000 in
theorem mT_offeredCost (l : Launch) (D : va_G) (a : Nat → Nat) (cI cZ : ClassId) (σ : jS) (p : Nat) (hp : p < 24) (hI : cInv σ) : jI l yT_offeredCost w_T_offeredCost (rmD 0) D (jTys cI cZ) [.ref (a 3), .int (nI p)] (wC a cI cZ σ) (wC a cI cZ (σ)) (cOffCost σ p) := by
  refine jI_of (ws' := jG) rfl (by decide) rfl (Nat.le_of_ble_eq_true rfl) ?_
  intro X hF hk
  show jJ l D (rmD 0) 3 X (wC a cI cZ σ) 0 [(0, .ref (a 3)), (1, .int (nI p))] []
  refine jq_aload_n (pc := 0) hF 0 dT_offeredCost_0 rfl ?_
  refine Cg_T_52 (pc := 1) hF dT_offeredCost_1 ?_
  refine Cg_T_127 (pc := 4) hF dT_offeredCost_4 ?_
  refine jq_iload_n (pc := 7) hF 1 dT_offeredCost_7 rfl ?_
  refine Cl_12 (pc := 8) hF (by omega) dT_offeredCost_8 ?_
  refine jq_istore_n (pc := 9) hF [(2, .int (σ 12 (p))), (0, .ref (a 3)), (1, .int (nI p))] dT_offeredCost_9 (Nat.le_of_ble_eq_true rfl) rfl ?_
  refine jq_aload_n (pc := 10) hF 1 dT_offeredCost_10 rfl ?_
  refine Cg_T_11 (pc := 11) hF dT_offeredCost_11 ?_
  refine jq_bipush (pc := 14) hF dT_offeredCost_14 bi_6 ?_
  refine jq_iload_n (pc := 16) hF 2 dT_offeredCost_16 rfl ?_
  refine jq_imulN (pc := 17) hF dT_offeredCost_17 ?_
  refine jq_iconst (pc := 18) hF dT_offeredCost_18 ic_1 ?_
  refine jq_iaddN (pc := 19) hF dT_offeredCost_19 ?_
  refine Cl_18 (pc := 20) hF (by omega) dT_offeredCost_20 ?_
  refine jq_iload_n (pc := 21) hF 0 dT_offeredCost_21 rfl ?_
  refine jq_iconst (pc := 22) hF dT_offeredCost_22 ic_m1 ?_
  have j39 : jJ l D (rmD 0) 3 X (wC a cI cZ σ) 39 [(2, .int (σ 12 (p))), (0, .ref (a 3)), (1, .int (nI p))] [.int (if ¬ (σ 12 (p) = -1) then σ 8 (σ 12 (p)).toNatClampNeg else nI (0)), .int (σ 18 (6 * p + 1))] := by
    refine jq_iadd (pc := 39) hF dT_offeredCost_39 ?_
    exact jq_at (hk 40 _ dT_offeredCost_40) rfl rfl rfl (congrArg (fun z => [Value.int z]) (by rfl))
  refine jq_icmp_ne (pc := 23) hF 30 dT_offeredCost_23 rfl (fun h23 => ?_) (fun h23 => ?_)
  · refine jq_aload_n (pc := 30) hF 1 dT_offeredCost_30 rfl ?_
    refine Cg_T_52 (pc := 31) hF dT_offeredCost_31 ?_
    refine Cg_T_130 (pc := 34) hF dT_offeredCost_34 ?_
    refine jq_iload_n (pc := 37) hF 0 dT_offeredCost_37 rfl ?_
    refine CL_8 (pc := 38) hF ((hI.wires hp).inn h23 (by decide)) dT_offeredCost_38 ?_
    exact jq_at j39 rfl rfl rfl (by rw [if_pos h23])
  · refine jq_iconst (pc := 26) hF dT_offeredCost_26 ic_0 ?_
    refine jq_goto (pc := 27) hF 39 dT_offeredCost_27 rfl ?_
    exact jq_at j39 rfl rfl rfl (by rw [if_neg (show ¬ (¬ (σ 12 (p) = -1)) by simp [h23])])
set_option maxHeartbeats 4000000 in
set_option maxRecDepth 100000 in
theorem mT_offerRank (l : Launch) (D : va_G) (a : Nat → Nat) (cI cZ : ClassId) (σ : jS) (p : Nat) (hp : p < 24) (hI : cInv σ) : jL l yT_offerRank w_T_offerRank (rmD 1) D (jTys cI cZ) [.ref (a 3), .int (nI p)] (wC a cI cZ σ) (wC a cI cZ (σ)) (cOffRank σ p) := by
  refine jL_of (ws' := jG) (by decide) rfl (Nat.le_of_ble_eq_true rfl) ?_
  intro X hF hk
  show jJ l D (rmD 1) 3 X (wC a cI cZ σ) 0 [(0, .ref (a 3)), (1, .int (nI p))] []
  refine jq_bipush (pc := 0) hF dT_offerRank_0 bi_6 ?_
  refine jq_iload_n (pc := 2) hF 1 dT_offerRank_2 rfl ?_
  refine jq_imulN (pc := 3) hF dT_offerRank_3 ?_
  refine jq_istore_n (pc := 4) hF [(2, .int (nI (6 * p))), (0, .ref (a 3)), (1, .int (nI p))] dT_offerRank_4 (Nat.le_of_ble_eq_true rfl) rfl ?_
  refine jq_aload_n (pc := 5) hF 1 dT_offerRank_5 rfl ?_
  refine Cg_T_11 (pc := 6) hF dT_offerRank_6 ?_
  refine jq_iload_n (pc := 9) hF 0 dT_offerRank_9 rfl ?_
  refine jq_iconst (pc := 10) hF dT_offerRank_10 ic_0 ?_
  refine jq_iaddN (pc := 11) hF dT_offerRank_11 ?_
  refine Cl_18 (pc := 12) hF (by omega) dT_offerRank_12 ?_
  refine jq_i2l (pc := 13) hF dT_offerRank_13 ?_
  refine jq_aload_n (pc := 14) hF 1 dT_offerRank_14 rfl ?_
  refine jq_iload_n (pc := 15) hF 2 dT_offerRank_15 rfl ?_
  refine jq_cVI (pc := 16) hF (As := [.int (nI p)]) (rest := [.long ((σ 18 (6 * p + 0)).toInt64)]) (mT_offeredCost l D a cI cZ σ (p) (by omega) hI) (jG_v mL_T_113 mI_T_offeredCost mS_T_offeredCost mZ_T mC_T_offeredCost) rfl rfl rfl dd_T_offeredCost ⟨Nat.le_of_ble_eq_true rfl, Nat.le_of_ble_eq_true rfl⟩ 3 rfl rfl rfl rfl (Nat.le_of_ble_eq_true rfl) dT_offerRank_16 ?_
  refine jq_i2l (pc := 19) hF dT_offerRank_19 ?_
  refine jq_aload_n (pc := 20) hF 1 dT_offerRank_20 rfl ?_
  refine Cg_T_11 (pc := 21) hF dT_offerRank_21 ?_
  refine jq_iload_n (pc := 24) hF 0 dT_offerRank_24 rfl ?_
  refine jq_iconst (pc := 25) hF dT_offerRank_25 ic_2 ?_
  refine jq_iaddN (pc := 26) hF dT_offerRank_26 ?_
  refine Cl_18 (pc := 27) hF (by omega) dT_offerRank_27 ?_
  refine jq_i2l (pc := 28) hF dT_offerRank_28 ?_
  refine jq_aload_n (pc := 29) hF 1 dT_offerRank_29 rfl ?_
  refine Cg_T_11 (pc := 30) hF dT_offerRank_30 ?_
  refine jq_iload_n (pc := 33) hF 0 dT_offerRank_33 rfl ?_
  refine jq_iconst (pc := 34) hF dT_offerRank_34 ic_3 ?_
  refine jq_iaddN (pc := 35) hF dT_offerRank_35 ?_
  refine Cl_18 (pc := 36) hF (by omega) dT_offerRank_36 ?_
  refine jq_i2l (pc := 37) hF dT_offerRank_37 ?_
  refine jq_cSL (pc := 38) hF (As := [.long ((σ 18 (6 * p + 0)).toInt64), .long ((cOffCost σ (p)).toInt64), .long ((σ 18 (6 * p + 2)).toInt64), .long ((σ 18 (6 * p + 3)).toInt64)]) (rest := []) (mT_rank l D a cI cZ σ ((σ 18 (6 * p + 0)).toInt64) ((cOffCost σ (p)).toInt64) ((σ 18 (6 * p + 2)).toInt64) ((σ 18 (6 * p + 3)).toInt64) ) (jG_st mL_T_133 mT_T_rank mZ_T mC_T_rank) rfl rfl rfl dd_T_rank ⟨Nat.le_of_ble_eq_true rfl, Nat.le_of_ble_eq_true rfl⟩ rfl rfl (Nat.le_of_ble_eq_true rfl) dT_offerRank_38 ?_
  exact jq_at (hk 41 _ dT_offerRank_41) rfl rfl rfl (congrArg (fun z => [Value.long z]) (by rfl))
set_option maxHeartbeats 4000000 in
set_option maxRecDepth 100000 in
theorem mT_messageRank (l : Launch) (D : va_G) (a : Nat → Nat) (cI cZ : ClassId) (σ : jS) (p : Nat) (hp : p < 24) : jL l yT_messageRank w_T_messageRank (rmD 1) D (jTys cI cZ) [.ref (a 3), .int (nI p)] (wC a cI cZ σ) (wC a cI cZ (σ)) (cMsgRank σ p) := by
  refine jL_of (ws' := jG) (by decide) rfl (Nat.le_of_ble_eq_true rfl) ?_
  intro X hF hk
  show jJ l D (rmD 1) 3 X (wC a cI cZ σ) 0 [(0, .ref (a 3)), (1, .int (nI p))] []
  refine jq_bipush (pc := 0) hF dT_messageRank_0 bi_6 ?_
  refine jq_iload_n (pc := 2) hF 1 dT_messageRank_2 rfl ?_
  refine jq_imulN (pc := 3) hF dT_messageRank_3 ?_
  refine jq_istore_n (pc := 4) hF [(2, .int (nI (6 * p))), (0, .ref (a 3)), (1, .int (nI p))] dT_messageRank_4 (Nat.le_of_ble_eq_true rfl) rfl ?_
  refine jq_aload_n (pc := 5) hF 1 dT_messageRank_5 rfl ?_
  refine Cg_T_11 (pc := 6) hF dT_messageRank_6 ?_
  refine jq_iload_n (pc := 9) hF 0 dT_messageRank_9 rfl ?_
  refine jq_iconst (pc := 10) hF dT_messageRank_10 ic_0 ?_
  refine jq_iaddN (pc := 11) hF dT_messageRank_11 ?_
  refine Cl_18 (pc := 12) hF (by omega) dT_messageRank_12 ?_
  refine jq_i2l (pc := 13) hF dT_messageRank_13 ?_
  refine jq_aload_n (pc := 14) hF 1 dT_messageRank_14 rfl ?_
  refine Cg_T_11 (pc := 15) hF dT_messageRank_15 ?_
  refine jq_iload_n (pc := 18) hF 0 dT_messageRank_18 rfl ?_
  refine jq_iconst (pc := 19) hF dT_messageRank_19 ic_1 ?_
  refine jq_iaddN (pc := 20) hF dT_messageRank_20 ?_
  refine Cl_18 (pc := 21) hF (by omega) dT_messageRank_21 ?_
  refine jq_i2l (pc := 22) hF dT_messageRank_22 ?_
  refine jq_aload_n (pc := 23) hF 1 dT_messageRank_23 rfl ?_
  refine Cg_T_11 (pc := 24) hF dT_messageRank_24 ?_
  refine jq_iload_n (pc := 27) hF 0 dT_messageRank_27 rfl ?_
  refine jq_iconst (pc := 28) hF dT_messageRank_28 ic_2 ?_
  refine jq_iaddN (pc := 29) hF dT_messageRank_29 ?_
  refine Cl_18 (pc := 30) hF (by omega) dT_messageRank_30 ?_
  refine jq_i2l (pc := 31) hF dT_messageRank_31 ?_
  refine jq_aload_n (pc := 32) hF 1 dT_messageRank_32 rfl ?_
  refine Cg_T_11 (pc := 33) hF dT_messageRank_33 ?_
  refine jq_iload_n (pc := 36) hF 0 dT_messageRank_36 rfl ?_
  refine jq_iconst (pc := 37) hF dT_messageRank_37 ic_3 ?_
  refine jq_iaddN (pc := 38) hF dT_messageRank_38 ?_
  refine Cl_18 (pc := 39) hF (by omega) dT_messageRank_39 ?_
  refine jq_i2l (pc := 40) hF dT_messageRank_40 ?_
  refine jq_cSL (pc := 41) hF (As := [.long ((σ 18 (6 * p + 0)).toInt64), .long ((σ 18 (6 * p + 1)).toInt64), .long ((σ 18 (6 * p + 2)).toInt64), .long ((σ 18 (6 * p + 3)).toInt64)]) (rest := []) (mT_rank l D a cI cZ σ ((σ 18 (6 * p + 0)).toInt64) ((σ 18 (6 * p + 1)).toInt64) ((σ 18 (6 * p + 2)).toInt64) ((σ 18 (6 * p + 3)).toInt64) ) (jG_st mL_T_133 mT_T_rank mZ_T mC_T_rank) rfl rfl rfl dd_T_rank ⟨Nat.le_of_ble_eq_true rfl, Nat.le_of_ble_eq_true rfl⟩ rfl rfl (Nat.le_of_ble_eq_true rfl) dT_messageRank_41 ?_
  exact jq_at (hk 44 _ dT_messageRank_44) rfl rfl rfl (congrArg (fun z => [Value.long z]) (by rfl))
set_option maxHeartbeats 4000000 in
set_option maxRecDepth 100000 in
theorem mT_isOffering (l : Launch) (D : va_G) (a : Nat → Nat) (cI cZ : ClassId) (σ : jS) (p : Nat) (hp : p < 24) (hI : cInv σ) : jI l yT_isOffering w_T_isOffering (rmD 1) D (jTys cI cZ) [.ref (a 3), .int (nI p)] (wC a cI cZ σ) (wC a cI cZ (σ)) (bI (cOffering σ p)) := by
  refine jI_of (ws' := jG) (bI_nw _) (by decide) rfl (Nat.le_of_ble_eq_true rfl) ?_
  intro X hF hk
  show jJ l D (rmD 1) 2 X (wC a cI cZ σ) 0 [(0, .ref (a 3)), (1, .int (nI p))] []
  refine jq_aload_n (pc := 0) hF 0 dT_isOffering_0 rfl ?_
  refine Cg_T_15 (pc := 1) hF dT_isOffering_1 ?_
  refine jq_iload_n (pc := 4) hF 1 dT_isOffering_4 rfl ?_
  refine Cl_19 (pc := 5) hF (by omega) dT_isOffering_5 ?_
  refine jq_if_eq (pc := 6) hF 49 dT_isOffering_6 rfl (fun h6 => ?_) (fun h6 => ?_)
  · refine jq_iconst (pc := 49) hF dT_isOffering_49 ic_0 ?_
    exact jq_at (hk 50 _ dT_isOffering_50) rfl rfl rfl (congrArg (fun z => [Value.int z]) (bI0 (by first | (simp [cOffering, h6]; done) | (simp [cOffering, h6, h17]; simpa using h42))))
  · refine jq_aload_n (pc := 9) hF 0 dT_isOffering_9 rfl ?_
    refine Cg_T_52 (pc := 10) hF dT_isOffering_10 ?_
    refine jq_iload_n (pc := 13) hF 1 dT_isOffering_13 rfl ?_
    refine jq_cVI (pc := 14) hF (As := [.int (nI p)]) (rest := []) (mP_hasWholeWire l D a cI cZ σ (p) (by omega) hI) (jG_v mL_T_124 mI_P_hasWholeWire mS_P_hasWholeWire mZ_P mC_P_hasWholeWire) rfl rfl rfl dd_P_hasWholeWire ⟨Nat.le_of_ble_eq_true rfl, Nat.le_of_ble_eq_true rfl⟩ 1 rfl rfl rfl rfl (Nat.le_of_ble_eq_true rfl) dT_isOffering_14 ?_
    refine jq_if_eqB (pc := 17) hF 49 dT_isOffering_17 rfl (fun h17 => ?_) (fun h17 => ?_)
    · refine jq_iconst (pc := 49) hF dT_isOffering_49 ic_0 ?_
      exact jq_at (hk 50 _ dT_isOffering_50) rfl rfl rfl (congrArg (fun z => [Value.int z]) (bI0 (by first | (simp [cOffering, h6, h17]; done) | (simp [cOffering, h6, h17]; simpa using h42))))
    · refine jq_aload_n (pc := 20) hF 0 dT_isOffering_20 rfl ?_
      refine Cg_T_11 (pc := 21) hF dT_isOffering_21 ?_
      refine jq_bipush (pc := 24) hF dT_isOffering_24 bi_6 ?_
      refine jq_iload_n (pc := 26) hF 1 dT_isOffering_26 rfl ?_
      refine jq_imulN (pc := 27) hF dT_isOffering_27 ?_
      refine jq_iconst (pc := 28) hF dT_isOffering_28 ic_0 ?_
      refine jq_iaddN (pc := 29) hF dT_isOffering_29 ?_
      refine Cl_18 (pc := 30) hF (by omega) dT_isOffering_30 ?_
      refine jq_aload_n (pc := 31) hF 0 dT_isOffering_31 rfl ?_
      refine Cg_T_52 (pc := 32) hF dT_isOffering_32 ?_
      refine Cg_T_110 (pc := 35) hF dT_isOffering_35 ?_
      refine jq_iload_n (pc := 38) hF 1 dT_isOffering_38 rfl ?_
      refine jq_iconst (pc := 39) hF dT_isOffering_39 ic_4 ?_
      refine jq_idivN (pc := 40) hF (by omega) (by decide) (by decide) dT_isOffering_40 ?_
      refine Cl_6 (pc := 41) hF (by omega) dT_isOffering_41 ?_
      refine jq_icmp_ge (pc := 42) hF 49 dT_isOffering_42 rfl (fun h42 => ?_) (fun h42 => ?_)
      · refine jq_iconst (pc := 49) hF dT_isOffering_49 ic_0 ?_
        exact jq_at (hk 50 _ dT_isOffering_50) rfl rfl rfl (congrArg (fun z => [Value.int z]) (bI0 (by first | (simp [cOffering, h6, h17, h42]; done) | (simp [cOffering, h6, h17]; simpa using h42))))
      · refine jq_iconst (pc := 45) hF dT_isOffering_45 ic_1 ?_
        refine jq_goto (pc := 46) hF 50 dT_isOffering_46 rfl ?_
        exact jq_at (hk 50 _ dT_isOffering_50) rfl rfl rfl (congrArg (fun z => [Value.int z]) (bI1 (by first | (simp [cOffering, h6, h17, h42]; done) | (simp [cOffering, h6, h17]; simpa using h42))))
set_option maxHeartbeats 4000000 in
set_option maxRecDepth 100000 in
theorem mT_roleNow (l : Launch) (D : va_G) (a : Nat → Nat) (cI cZ : ClassId) (σ : jS) (p : Nat) (hp : p < 24) (hI : cInv σ) : jI l yT_roleNow w_T_roleNow (rmD 2) D (jTys cI cZ) [.ref (a 3), .int (nI p)] (wC a cI cZ σ) (wC a cI cZ (σ)) (cRole σ p) := by
  refine jI_of (ws' := jG) rfl (by decide) rfl (Nat.le_of_ble_eq_true rfl) ?_
  intro X hF hk
  show jJ l D (rmD 2) 5 X (wC a cI cZ σ) 0 [(0, .ref (a 3)), (1, .int (nI p))] []
  refine jq_iload_n (pc := 0) hF 1 dT_roleNow_0 rfl ?_
  refine jq_iconst (pc := 1) hF dT_roleNow_1 ic_4 ?_
  refine jq_idivN (pc := 2) hF (by omega) (by decide) (by decide) dT_roleNow_2 ?_
  refine jq_istore_n (pc := 3) hF [(2, .int (nI (p / 4))), (0, .ref (a 3)), (1, .int (nI p))] dT_roleNow_3 (Nat.le_of_ble_eq_true rfl) rfl ?_
  refine jq_aload_n (pc := 4) hF 1 dT_roleNow_4 rfl ?_
  refine Cg_T_52 (pc := 5) hF dT_roleNow_5 ?_
  refine jq_iload_n (pc := 8) hF 2 dT_roleNow_8 rfl ?_
  refine jq_cVI (pc := 9) hF (As := [.int (nI p)]) (rest := []) (mP_isUp l D a cI cZ σ (p) (by omega) hI) (jG_v mL_T_137 mI_P_isUp mS_P_isUp mZ_P mC_P_isUp) rfl rfl rfl dd_P_isUp ⟨Nat.le_of_ble_eq_true rfl, Nat.le_of_ble_eq_true rfl⟩ 1 rfl rfl rfl rfl (Nat.le_of_ble_eq_true rfl) dT_roleNow_9 ?_
  refine jq_if_neB (pc := 12) hF 17 dT_roleNow_12 rfl (fun h12 => ?_) (fun h12 => ?_)
  · refine jq_aload_n (pc := 17) hF 1 dT_roleNow_17 rfl ?_
    refine Cg_T_31 (pc := 18) hF dT_roleNow_18 ?_
    refine jq_iload_n (pc := 21) hF 0 dT_roleNow_21 rfl ?_
    refine Cl_24 (pc := 22) hF (by omega) dT_roleNow_22 ?_
    refine jq_iload_n (pc := 23) hF 2 dT_roleNow_23 rfl ?_
    refine jq_icmp_ne (pc := 24) hF 29 dT_roleNow_24 rfl (fun h24 => ?_) (fun h24 => ?_)
    · refine jq_aload_n (pc := 29) hF 1 dT_roleNow_29 rfl ?_
      refine Cg_T_25 (pc := 30) hF dT_roleNow_30 ?_
      refine jq_iload_n (pc := 33) hF 0 dT_roleNow_33 rfl ?_
      refine Cl_22 (pc := 34) hF (by omega) dT_roleNow_34 ?_
      refine jq_i2l (pc := 35) hF dT_roleNow_35 ?_
      refine jq_aload_n (pc := 36) hF 1 dT_roleNow_36 rfl ?_
      refine Cg_T_28 (pc := 37) hF dT_roleNow_37 ?_
      refine jq_iload_n (pc := 40) hF 0 dT_roleNow_40 rfl ?_
      refine Cl_23 (pc := 41) hF (by omega) dT_roleNow_41 ?_
      refine jq_i2l (pc := 42) hF dT_roleNow_42 ?_
      refine jq_aload_n (pc := 43) hF 1 dT_roleNow_43 rfl ?_
      refine Cg_T_52 (pc := 44) hF dT_roleNow_44 ?_
      refine Cg_T_110 (pc := 47) hF dT_roleNow_47 ?_
      refine jq_iload_n (pc := 50) hF 0 dT_roleNow_50 rfl ?_
      refine Cl_6 (pc := 51) hF (by omega) dT_roleNow_51 ?_
      refine jq_i2l (pc := 52) hF dT_roleNow_52 ?_
      refine jq_iload_n (pc := 53) hF 2 dT_roleNow_53 rfl ?_
      refine jq_iconst (pc := 54) hF dT_roleNow_54 ic_4 ?_
      refine jq_iremN (pc := 55) hF (by omega) (by decide) (by decide) dT_roleNow_55 ?_
      refine jq_i2l (pc := 56) hF dT_roleNow_56 ?_
      refine jq_cSL (pc := 57) hF (As := [.long ((σ 22 (p / 4)).toInt64), .long ((σ 23 (p / 4)).toInt64), .long ((σ 6 (p / 4)).toInt64), .long ((nI (p % 4)).toInt64)]) (rest := []) (mT_rank l D a cI cZ σ ((σ 22 (p / 4)).toInt64) ((σ 23 (p / 4)).toInt64) ((σ 6 (p / 4)).toInt64) ((nI (p % 4)).toInt64) ) (jG_st mL_T_133 mT_T_rank mZ_T mC_T_rank) rfl rfl rfl dd_T_rank ⟨Nat.le_of_ble_eq_true rfl, Nat.le_of_ble_eq_true rfl⟩ rfl rfl (Nat.le_of_ble_eq_true rfl) dT_roleNow_57 ?_
      refine jq_lstore_n (pc := 60) hF [(3, .long (cRank ((σ 22 (p / 4)).toInt64) ((σ 23 (p / 4)).toInt64) ((σ 6 (p / 4)).toInt64) ((nI (p % 4)).toInt64))), (2, .int (nI (p / 4))), (0, .ref (a 3)), (1, .int (nI p))] dT_roleNow_60 (Nat.le_of_ble_eq_true rfl) rfl ?_
      refine jq_aload_n (pc := 61) hF 2 dT_roleNow_61 rfl ?_
      refine Cg_T_15 (pc := 62) hF dT_roleNow_62 ?_
      refine jq_iload_n (pc := 65) hF 3 dT_roleNow_65 rfl ?_
      refine Cl_19 (pc := 66) hF (by omega) dT_roleNow_66 ?_
      refine jq_if_eq (pc := 67) hF 80 dT_roleNow_67 rfl (fun h67 => ?_) (fun h67 => ?_)
      · refine jq_iconst (pc := 80) hF dT_roleNow_80 ic_2 ?_
        refine jq_goto (pc := 81) hF 85 dT_roleNow_81 rfl ?_
        exact jq_at (hk 85 _ dT_roleNow_85) rfl rfl rfl (congrArg (fun z => [Value.int z]) (by simp [cRole, cOwnRank, h12, h24, h67]))
      · refine jq_lload_n (pc := 70) hF 0 dT_roleNow_70 rfl ?_
        refine jq_aload_n (pc := 71) hF 2 dT_roleNow_71 rfl ?_
        refine jq_iload_n (pc := 72) hF 3 dT_roleNow_72 rfl ?_
        refine jq_cVL (pc := 73) hF (As := [.int (nI p)]) (rest := [.long (cRank ((σ 22 (p / 4)).toInt64) ((σ 23 (p / 4)).toInt64) ((σ 6 (p / 4)).toInt64) ((nI (p % 4)).toInt64))]) (mT_messageRank l D a cI cZ σ (p) (by omega)) (jG_v mL_T_140 mI_T_messageRank mS_T_messageRank mZ_T mC_T_messageRank) rfl rfl rfl dd_T_messageRank ⟨Nat.le_of_ble_eq_true rfl, Nat.le_of_ble_eq_true rfl⟩ 3 rfl rfl rfl rfl (Nat.le_of_ble_eq_true rfl) dT_roleNow_73 ?_
        refine jq_lcmp (pc := 76) hF dT_roleNow_76 ?_
        refine jq_if_geL (pc := 77) hF 84 dT_roleNow_77 rfl (fun h77 => ?_) (fun h77 => ?_)
        · refine jq_iconst (pc := 84) hF dT_roleNow_84 ic_3 ?_
          exact jq_at (hk 85 _ dT_roleNow_85) rfl rfl rfl (congrArg (fun z => [Value.int z]) (by simp [cRole, cOwnRank, h12, h24, h67, h77]))
        · refine jq_iconst (pc := 80) hF dT_roleNow_80 ic_2 ?_
          refine jq_goto (pc := 81) hF 85 dT_roleNow_81 rfl ?_
          exact jq_at (hk 85 _ dT_roleNow_85) rfl rfl rfl (congrArg (fun z => [Value.int z]) (by simp [cRole, cOwnRank, h12, h24, h67, h77]))
    · refine jq_iconst (pc := 27) hF dT_roleNow_27 ic_1 ?_
      exact jq_at (hk 28 _ dT_roleNow_28) rfl rfl rfl (congrArg (fun z => [Value.int z]) (by simp [cRole, cOwnRank, h12, h24]))
  · refine jq_iconst (pc := 15) hF dT_roleNow_15 ic_0 ?_
    exact jq_at (hk 16 _ dT_roleNow_16) rfl rfl rfl (congrArg (fun z => [Value.int z]) (by simp [cRole, cOwnRank, h12]))
set_option maxHeartbeats 4000000 in
set_option maxRecDepth 100000 in
theorem mT_lookAtRole (l : Launch) (D : va_G) (a : Nat → Nat) (cI cZ : ClassId) (σ : jS) (p : Nat) (hp : p < 24) (hI : cInv σ) : jV l yT_lookAtRole w_T_lookAtRole (rmD 3) D (jTys cI cZ) [.ref (a 3), .int (nI p)] (wC a cI cZ σ) (wC a cI cZ (cLook σ p)) := by
  refine jV_of (ws' := jG) (by decide) rfl (Nat.le_of_ble_eq_true rfl) ?_
  intro X hF hk
  show jJ l D (rmD 3) 3 X (wC a cI cZ σ) 0 [(0, .ref (a 3)), (1, .int (nI p))] []
  refine jq_aload_n (pc := 0) hF 0 dT_lookAtRole_0 rfl ?_
  refine jq_iload_n (pc := 1) hF 1 dT_lookAtRole_1 rfl ?_
  refine jq_cVI (pc := 2) hF (As := [.int (nI p)]) (rest := []) (mT_roleNow l D a cI cZ σ (p) (by omega) hI) (jG_v mL_T_143 mI_T_roleNow mS_T_roleNow mZ_T mC_T_roleNow) rfl rfl rfl dd_T_roleNow ⟨Nat.le_of_ble_eq_true rfl, Nat.le_of_ble_eq_true rfl⟩ 3 rfl rfl rfl rfl (Nat.le_of_ble_eq_true rfl) dT_lookAtRole_2 ?_
  refine jq_istore_n (pc := 5) hF [(2, .int (cRole σ (p))), (0, .ref (a 3)), (1, .int (nI p))] dT_lookAtRole_5 (Nat.le_of_ble_eq_true rfl) rfl ?_
  refine jq_iload_n (pc := 6) hF 0 dT_lookAtRole_6 rfl ?_
  refine jq_cSI (pc := 7) hF (As := [.int (cRole σ (p))]) (rest := []) (mT_isActive l D a cI cZ σ (cRole σ (p)) ) (jG_st mL_T_146 mT_T_isActive mZ_T mC_T_isActive) rfl rfl rfl dd_T_isActive ⟨Nat.le_of_ble_eq_true rfl, Nat.le_of_ble_eq_true rfl⟩ rfl rfl (Nat.le_of_ble_eq_true rfl) dT_lookAtRole_7 ?_
  refine jq_if_eqB (pc := 10) hF 35 dT_lookAtRole_10 rfl (fun h10 => ?_) (fun h10 => ?_)
  · refine jq_aload_n (pc := 35) hF 1 dT_lookAtRole_35 rfl ?_
    refine Cg_T_34 (pc := 36) hF dT_lookAtRole_36 ?_
    refine jq_iload_n (pc := 39) hF 2 dT_lookAtRole_39 rfl ?_
    refine jq_iload_n (pc := 40) hF 0 dT_lookAtRole_40 rfl ?_
    refine Cs_25 (pc := 41) hF (by omega) dT_lookAtRole_41 ?_
    exact jq_at (hk 42 _ dT_lookAtRole_42) (congrArg (wC a cI cZ) (by simp [cLook, h10])) rfl rfl rfl
  · refine jq_aload_n (pc := 13) hF 1 dT_lookAtRole_13 rfl ?_
    refine Cg_T_34 (pc := 14) hF dT_lookAtRole_14 ?_
    refine jq_iload_n (pc := 17) hF 2 dT_lookAtRole_17 rfl ?_
    refine Cl_25 (pc := 18) hF (by omega) dT_lookAtRole_18 ?_
    refine jq_cSI (pc := 19) hF (As := [.int (σ 25 (p))]) (rest := []) (mT_isActive l D a cI cZ σ (σ 25 (p)) ) (jG_st mL_T_146 mT_T_isActive mZ_T mC_T_isActive) rfl rfl rfl dd_T_isActive ⟨Nat.le_of_ble_eq_true rfl, Nat.le_of_ble_eq_true rfl⟩ rfl rfl (Nat.le_of_ble_eq_true rfl) dT_lookAtRole_19 ?_
    refine jq_if_neB (pc := 22) hF 35 dT_lookAtRole_22 rfl (fun h22 => ?_) (fun h22 => ?_)
    · refine jq_aload_n (pc := 35) hF 1 dT_lookAtRole_35 rfl ?_
      refine Cg_T_34 (pc := 36) hF dT_lookAtRole_36 ?_
      refine jq_iload_n (pc := 39) hF 2 dT_lookAtRole_39 rfl ?_
      refine jq_iload_n (pc := 40) hF 0 dT_lookAtRole_40 rfl ?_
      refine Cs_25 (pc := 41) hF (by omega) dT_lookAtRole_41 ?_
      exact jq_at (hk 42 _ dT_lookAtRole_42) (congrArg (wC a cI cZ) (by simp [cLook, h10, h22])) rfl rfl rfl
    · refine jq_aload_n (pc := 25) hF 1 dT_lookAtRole_25 rfl ?_
      refine Cg_T_37 (pc := 26) hF dT_lookAtRole_26 ?_
      refine jq_iload_n (pc := 29) hF 2 dT_lookAtRole_29 rfl ?_
      refine jq_aload_n (pc := 30) hF 1 dT_lookAtRole_30 rfl ?_
      refine Cg_T_69 (pc := 31) hF dT_lookAtRole_31 ?_
      refine Cs_26 (pc := 34) hF (by omega) dT_lookAtRole_34 ?_
      refine jq_aload_n (pc := 35) hF 1 dT_lookAtRole_35 rfl ?_
      refine Cg_T_34 (pc := 36) hF dT_lookAtRole_36 ?_
      refine jq_iload_n (pc := 39) hF 2 dT_lookAtRole_39 rfl ?_
      refine jq_iload_n (pc := 40) hF 0 dT_lookAtRole_40 rfl ?_
      refine Cs_25 (pc := 41) hF (by omega) dT_lookAtRole_41 ?_
      exact jq_at (hk 42 _ dT_lookAtRole_42) (congrArg (wC a cI cZ) (by simp [cLook, h10, h22])) rfl rfl rfl
set_option maxHeartbeats 4000000 in
set_option maxRecDepth 100000 in
theorem mT_stateNow (l : Launch) (D : va_G) (a : Nat → Nat) (cI cZ : ClassId) (σ : jS) (p : Nat) (hp : p < 24) : jI l yT_stateNow w_T_stateNow (rmD 1) D (jTys cI cZ) [.ref (a 3), .int (nI p)] (wC a cI cZ σ) (wC a cI cZ (σ)) (cState σ p) := by
  refine jI_of (ws' := jG) rfl (by decide) rfl (Nat.le_of_ble_eq_true rfl) ?_
  intro X hF hk
  show jJ l D (rmD 1) 3 X (wC a cI cZ σ) 0 [(0, .ref (a 3)), (1, .int (nI p))] []
  refine jq_aload_n (pc := 0) hF 0 dT_stateNow_0 rfl ?_
  refine Cg_T_34 (pc := 1) hF dT_stateNow_1 ?_
  refine jq_iload_n (pc := 4) hF 1 dT_stateNow_4 rfl ?_
  refine Cl_25 (pc := 5) hF (by omega) dT_stateNow_5 ?_
  refine jq_cSI (pc := 6) hF (As := [.int (σ 25 (p))]) (rest := []) (mT_isActive l D a cI cZ σ (σ 25 (p)) ) (jG_st mL_T_146 mT_T_isActive mZ_T mC_T_isActive) rfl rfl rfl dd_T_isActive ⟨Nat.le_of_ble_eq_true rfl, Nat.le_of_ble_eq_true rfl⟩ rfl rfl (Nat.le_of_ble_eq_true rfl) dT_stateNow_6 ?_
  refine jq_if_neB (pc := 9) hF 14 dT_stateNow_9 rfl (fun h9 => ?_) (fun h9 => ?_)
  · refine jq_aload_n (pc := 14) hF 0 dT_stateNow_14 rfl ?_
    refine Cg_T_69 (pc := 15) hF dT_stateNow_15 ?_
    refine jq_aload_n (pc := 18) hF 0 dT_stateNow_18 rfl ?_
    refine Cg_T_37 (pc := 19) hF dT_stateNow_19 ?_
    refine jq_iload_n (pc := 22) hF 1 dT_stateNow_22 rfl ?_
    refine Cl_26 (pc := 23) hF (by omega) dT_stateNow_23 ?_
    refine jq_isub (pc := 24) hF dT_stateNow_24 ?_
    refine jq_istore_n (pc := 25) hF [(2, .int ((σ 3 2) - (σ 26 (p)))), (0, .ref (a 3)), (1, .int (nI p))] dT_stateNow_25 (Nat.le_of_ble_eq_true rfl) rfl ?_
    refine jq_iload_n (pc := 26) hF 0 dT_stateNow_26 rfl ?_
    refine jq_aload_n (pc := 27) hF 1 dT_stateNow_27 rfl ?_
    refine Cg_T_60 (pc := 28) hF dT_stateNow_28 ?_
    refine jq_icmp_ge (pc := 31) hF 36 dT_stateNow_31 rfl (fun h31 => ?_) (fun h31 => ?_)
    · refine jq_iload_n (pc := 36) hF 0 dT_stateNow_36 rfl ?_
      refine jq_iconst (pc := 37) hF dT_stateNow_37 ic_2 ?_
      refine jq_aload_n (pc := 38) hF 1 dT_stateNow_38 rfl ?_
      refine Cg_T_60 (pc := 39) hF dT_stateNow_39 ?_
      refine jq_imul (pc := 42) hF dT_stateNow_42 ?_
      refine jq_icmp_ge (pc := 43) hF 50 dT_stateNow_43 rfl (fun h43 => ?_) (fun h43 => ?_)
      · refine jq_iconst (pc := 50) hF dT_stateNow_50 ic_3 ?_
        exact jq_at (hk 51 _ dT_stateNow_51) rfl rfl rfl (congrArg (fun z => [Value.int z]) (by simp [cState, h9, h31, h43]))
      · refine jq_iconst (pc := 46) hF dT_stateNow_46 ic_2 ?_
        refine jq_goto (pc := 47) hF 51 dT_stateNow_47 rfl ?_
        exact jq_at (hk 51 _ dT_stateNow_51) rfl rfl rfl (congrArg (fun z => [Value.int z]) (by simp [cState, h9, h31, h43]))
    · refine jq_iconst (pc := 34) hF dT_stateNow_34 ic_1 ?_
      exact jq_at (hk 35 _ dT_stateNow_35) rfl rfl rfl (congrArg (fun z => [Value.int z]) (by simp [cState, h9, h31]))
  · refine jq_iconst (pc := 12) hF dT_stateNow_12 ic_0 ?_
    exact jq_at (hk 13 _ dT_stateNow_13) rfl rfl rfl (congrArg (fun z => [Value.int z]) (by simp [cState, h9]))
set_option maxHeartbeats 4000000 in
set_option maxRecDepth 100000 in
theorem mT_bestOffer (l : Launch) (D : va_G) (a : Nat → Nat) (cI cZ : ClassId) (σ : jS) (b : Nat) (hb : b < 6) (hI : cInv σ) : jI l yT_bestOffer w_T_bestOffer (rmD 2) D (jTys cI cZ) [.ref (a 3), .int (nI b)] (wC a cI cZ σ) (wC a cI cZ (σ)) (cBest σ b) := by
  refine jI_of (ws' := jG) rfl (by decide) rfl (Nat.le_of_ble_eq_true rfl) ?_
  intro X hF hk
  show jJ l D (rmD 2) 4 X (wC a cI cZ σ) 0 [(0, .ref (a 3)), (1, .int (nI b))] []
  refine jq_iconst (pc := 0) hF dT_bestOffer_0 ic_m1 ?_
  refine jq_istore_n (pc := 1) hF [(2, .int (-1)), (0, .ref (a 3)), (1, .int (nI b))] dT_bestOffer_1 (Nat.le_of_ble_eq_true rfl) rfl ?_
  refine jq_iconst (pc := 2) hF dT_bestOffer_2 ic_4 ?_
  refine jq_iload_n (pc := 3) hF 2 dT_bestOffer_3 rfl ?_
  refine jq_imulN (pc := 4) hF dT_bestOffer_4 ?_
  refine jq_istore_n (pc := 5) hF [(3, .int (nI (4 * b))), (2, .int (-1)), (0, .ref (a 3)), (1, .int (nI b))] dT_bestOffer_5 (Nat.le_of_ble_eq_true rfl) rfl ?_
  have lp6 : ∀ i, i ≤ 4 → jJ l D (rmD 2) 4 X (wC a cI cZ (σ)) 6 [(3, .int (nI (4 * b + i))), (2, .int (cBestN σ b i)), (0, .ref (a 3)), (1, .int (nI b))] [] := by
    refine loop_up (fun i hi ih => ?_)
    refine jq_iload_n (pc := 6) hF 0 dT_bestOffer_6 rfl ?_
    refine jq_iconst (pc := 7) hF dT_bestOffer_7 ic_4 ?_
    refine jq_iload_n (pc := 8) hF 3 dT_bestOffer_8 rfl ?_
    refine jq_imulN (pc := 9) hF dT_bestOffer_9 ?_
    refine jq_iconst (pc := 10) hF dT_bestOffer_10 ic_4 ?_
    refine jq_iaddN (pc := 11) hF dT_bestOffer_11 ?_
    refine jq_icmp_geN (pc := 12) hF 50 (by omega) (by omega) dT_bestOffer_12 rfl (fun h12 => ?_) (fun h12 => ?_)
    · obtain rfl : i = 4 := by omega
      refine jq_iload_n (pc := 50) hF 1 dT_bestOffer_50 rfl ?_
      exact jq_at (hk 51 _ dT_bestOffer_51) rfl rfl rfl (congrArg (fun z => [Value.int z]) (by rfl))
    · refine jq_aload_n (pc := 15) hF 2 dT_bestOffer_15 rfl ?_
      refine jq_iload_n (pc := 16) hF 0 dT_bestOffer_16 rfl ?_
      refine jq_cVI (pc := 17) hF (As := [.int (nI (4 * b + i))]) (rest := []) (mT_isOffering l D a cI cZ (σ) (4 * b + i) (by omega) hI) (jG_v mL_T_116 mI_T_isOffering mS_T_isOffering mZ_T mC_T_isOffering) rfl rfl rfl dd_T_isOffering ⟨Nat.le_of_ble_eq_true rfl, Nat.le_of_ble_eq_true rfl⟩ 3 rfl rfl rfl rfl (Nat.le_of_ble_eq_true rfl) dT_bestOffer_17 ?_
      refine jq_if_eqB (pc := 20) hF 44 dT_bestOffer_20 rfl (fun h20 => ?_) (fun h20 => ?_)
      · refine jq_iincN (pc := 44) hF 0 [(3, .int (nI (4 * b + i + 1))), (2, .int (cBestN σ b i)), (0, .ref (a 3)), (1, .int (nI b))] dT_bestOffer_44 rfl (Nat.le_of_ble_eq_true rfl) rfl ?_
        refine jq_goto (pc := 47) hF 6 dT_bestOffer_47 rfl ?_
        refine jq_sub [(3, .int (nI (4 * b + i + 1))), (2, .int (cBestN σ b i)), (0, .ref (a 3)), (1, .int (nI b))] [0, 1, 2, 3] rfl ?_
        exact jq_at (ih (by omega)) rfl rfl (by simp [cBestN, h12, h20, Nat.add_assoc]) rfl
      · refine jq_iload_n (pc := 23) hF 1 dT_bestOffer_23 rfl ?_
        refine jq_iconst (pc := 24) hF dT_bestOffer_24 ic_m1 ?_
        refine jq_icmp_eq (pc := 25) hF 42 dT_bestOffer_25 rfl (fun h25 => ?_) (fun h25 => ?_)
        · refine jq_iload_n (pc := 42) hF 0 dT_bestOffer_42 rfl ?_
          refine jq_istore_n (pc := 43) hF [(2, .int (nI (4 * b + i))), (3, .int (nI (4 * b + i))), (0, .ref (a 3)), (1, .int (nI b))] dT_bestOffer_43 (Nat.le_of_ble_eq_true rfl) rfl ?_
          refine jq_iincN (pc := 44) hF 1 [(3, .int (nI (4 * b + i + 1))), (2, .int (nI (4 * b + i))), (0, .ref (a 3)), (1, .int (nI b))] dT_bestOffer_44 rfl (Nat.le_of_ble_eq_true rfl) rfl ?_
          refine jq_goto (pc := 47) hF 6 dT_bestOffer_47 rfl ?_
          refine jq_sub [(3, .int (nI (4 * b + i + 1))), (2, .int (nI (4 * b + i))), (0, .ref (a 3)), (1, .int (nI b))] [0, 1, 2, 3] rfl ?_
          exact jq_at (ih (by omega)) rfl rfl (by simp [cBestN, h12, h20, h25, Nat.add_assoc]) rfl
        · refine jq_aload_n (pc := 28) hF 2 dT_bestOffer_28 rfl ?_
          refine jq_iload_n (pc := 29) hF 0 dT_bestOffer_29 rfl ?_
          refine jq_cVL (pc := 30) hF (As := [.int (nI (4 * b + i))]) (rest := []) (mT_offerRank l D a cI cZ (σ) (4 * b + i) (by omega) hI) (jG_v mL_T_120 mI_T_offerRank mS_T_offerRank mZ_T mC_T_offerRank) rfl rfl rfl dd_T_offerRank ⟨Nat.le_of_ble_eq_true rfl, Nat.le_of_ble_eq_true rfl⟩ 3 rfl rfl rfl rfl (Nat.le_of_ble_eq_true rfl) dT_bestOffer_30 ?_
          refine jq_aload_n (pc := 33) hF 2 dT_bestOffer_33 rfl ?_
          refine jq_iload_n (pc := 34) hF 1 dT_bestOffer_34 rfl ?_
          refine jq_top (nI ((cBestN σ b i).toNatClampNeg)) (((cBestN_ok σ b i hb hi).cl h25 (by decide)).2) ?_
          refine jq_cVL (pc := 35) hF (As := [.int (nI ((cBestN σ b i).toNatClampNeg))]) (rest := [.long (cOffRank (σ) (4 * b + i))]) (mT_offerRank l D a cI cZ (σ) ((cBestN σ b i).toNatClampNeg) ((cBestN_ok σ b i hb hi).cl h25 (by decide)).1 hI) (jG_v mL_T_120 mI_T_offerRank mS_T_offerRank mZ_T mC_T_offerRank) rfl rfl rfl dd_T_offerRank ⟨Nat.le_of_ble_eq_true rfl, Nat.le_of_ble_eq_true rfl⟩ 3 rfl rfl rfl rfl (Nat.le_of_ble_eq_true rfl) dT_bestOffer_35 ?_
          refine jq_lcmp (pc := 38) hF dT_bestOffer_38 ?_
          refine jq_if_geL (pc := 39) hF 44 dT_bestOffer_39 rfl (fun h39 => ?_) (fun h39 => ?_)
          · refine jq_iincN (pc := 44) hF 0 [(3, .int (nI (4 * b + i + 1))), (2, .int (cBestN σ b i)), (0, .ref (a 3)), (1, .int (nI b))] dT_bestOffer_44 rfl (Nat.le_of_ble_eq_true rfl) rfl ?_
            refine jq_goto (pc := 47) hF 6 dT_bestOffer_47 rfl ?_
            refine jq_sub [(3, .int (nI (4 * b + i + 1))), (2, .int (cBestN σ b i)), (0, .ref (a 3)), (1, .int (nI b))] [0, 1, 2, 3] rfl ?_
            exact jq_at (ih (by omega)) rfl rfl (by simp [cBestN, h12, h20, h25, h39, Nat.add_assoc]) rfl
          · refine jq_iload_n (pc := 42) hF 0 dT_bestOffer_42 rfl ?_
            refine jq_istore_n (pc := 43) hF [(2, .int (nI (4 * b + i))), (3, .int (nI (4 * b + i))), (0, .ref (a 3)), (1, .int (nI b))] dT_bestOffer_43 (Nat.le_of_ble_eq_true rfl) rfl ?_
            refine jq_iincN (pc := 44) hF 1 [(3, .int (nI (4 * b + i + 1))), (2, .int (nI (4 * b + i))), (0, .ref (a 3)), (1, .int (nI b))] dT_bestOffer_44 rfl (Nat.le_of_ble_eq_true rfl) rfl ?_
            refine jq_goto (pc := 47) hF 6 dT_bestOffer_47 rfl ?_
            refine jq_sub [(3, .int (nI (4 * b + i + 1))), (2, .int (nI (4 * b + i))), (0, .ref (a 3)), (1, .int (nI b))] [0, 1, 2, 3] rfl ?_
            exact jq_at (ih (by omega)) rfl rfl (by simp [cBestN, h12, h20, h25, h39, Nat.add_assoc]) rfl
  exact jq_at (lp6 0 (by omega)) rfl rfl rfl rfl
