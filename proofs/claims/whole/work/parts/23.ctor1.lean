/-! the constructors, by program (wip/whole/gen/ctor.py) -/
theorem df_N : ∀ j, j < 7 → defaultValue (tyN j) = vp_V [.int 0, .null, .null, .null, .null, .null, .int 0] j := by
  intro j hj
  rcases (show j = 0 ∨ j = 1 ∨ j = 2 ∨ j = 3 ∨ j = 4 ∨ j = 5 ∨ j = 6 by omega) with rfl | rfl | rfl | rfl | rfl | rfl | rfl <;> rfl
theorem df_P : ∀ j, j < 13 → defaultValue (tyP j) = vp_V [.int 0, .null, .int 0, .null, .null, .null, .int 0, .null, .null, .int 0, .null, .null, .null] j := by
  intro j hj
  rcases (show j = 0 ∨ j = 1 ∨ j = 2 ∨ j = 3 ∨ j = 4 ∨ j = 5 ∨ j = 6 ∨ j = 7 ∨ j = 8 ∨ j = 9 ∨ j = 10 ∨ j = 11 ∨ j = 12 by omega) with rfl | rfl | rfl | rfl | rfl | rfl | rfl | rfl | rfl | rfl | rfl | rfl | rfl <;> rfl
theorem df_W : ∀ j, j < 3 → defaultValue (tyW j) = vp_V [.null, .null, .null] j := by
  intro j hj
  rcases (show j = 0 ∨ j = 1 ∨ j = 2 by omega) with rfl | rfl | rfl <;> rfl
theorem df_T : ∀ j, j < 17 → defaultValue (tyT j) = vp_V [.null, .int 0, .int 0, .int 0, .null, .null, .null, .null, .null, .null, .null, .null, .null, .null, .null, .null, .null] j := by
  intro j hj
  rcases (show j = 0 ∨ j = 1 ∨ j = 2 ∨ j = 3 ∨ j = 4 ∨ j = 5 ∨ j = 6 ∨ j = 7 ∨ j = 8 ∨ j = 9 ∨ j = 10 ∨ j = 11 ∨ j = 12 ∨ j = 13 ∨ j = 14 ∨ j = 15 ∨ j = 16 by omega) with rfl | rfl | rfl | rfl | rfl | rfl | rfl | rfl | rfl | rfl | rfl | rfl | rfl | rfl | rfl | rfl | rfl <;> rfl
theorem df_B : ∀ j, j < 2 → defaultValue (tyB j) = vp_V [.null, .null] j := by
  intro j hj
  rcases (show j = 0 ∨ j = 1 by omega) with rfl | rfl <;> rfl
theorem df_K : ∀ j, j < 12 → defaultValue (tyK j) = vp_V [.null, .null, .null, .null, .null, .null, .int 0, .int 0, .int 0, .int 0, .int 0, .int 0] j := by
  intro j hj
  rcases (show j = 0 ∨ j = 1 ∨ j = 2 ∨ j = 3 ∨ j = 4 ∨ j = 5 ∨ j = 6 ∨ j = 7 ∨ j = 8 ∨ j = 9 ∨ j = 10 ∨ j = 11 by omega) with rfl | rfl | rfl | rfl | rfl | rfl | rfl | rfl | rfl | rfl | rfl | rfl <;> rfl
theorem df_M : ∀ j, j < 42 → defaultValue (tyM j) = vp_V [.int 0, .int 0, .int 0, .int 0, .int 0, .null, .null, .null, .null, .null, .null, .null, .null, .null, .int 0, .null, .null, .null, .null, .int 0, .null, .null, .int 0, .null, .null, .null, .null, .null, .null, .null, .null, .null, .null, .null, .null, .null, .null, .int 0, .int 0, .int 0, .int 0, .int 0] j := by
  intro j hj
  rcases (show j = 0 ∨ j = 1 ∨ j = 2 ∨ j = 3 ∨ j = 4 ∨ j = 5 ∨ j = 6 ∨ j = 7 ∨ j = 8 ∨ j = 9 ∨ j = 10 ∨ j = 11 ∨ j = 12 ∨ j = 13 ∨ j = 14 ∨ j = 15 ∨ j = 16 ∨ j = 17 ∨ j = 18 ∨ j = 19 ∨ j = 20 ∨ j = 21 ∨ j = 22 ∨ j = 23 ∨ j = 24 ∨ j = 25 ∨ j = 26 ∨ j = 27 ∨ j = 28 ∨ j = 29 ∨ j = 30 ∨ j = 31 ∨ j = 32 ∨ j = 33 ∨ j = 34 ∨ j = 35 ∨ j = 36 ∨ j = 37 ∨ j = 38 ∨ j = 39 ∨ j = 40 ∨ j = 41 by omega) with rfl | rfl | rfl | rfl | rfl | rfl | rfl | rfl | rfl | rfl | rfl | rfl | rfl | rfl | rfl | rfl | rfl | rfl | rfl | rfl | rfl | rfl | rfl | rfl | rfl | rfl | rfl | rfl | rfl | rfl | rfl | rfl | rfl | rfl | rfl | rfl | rfl | rfl | rfl | rfl | rfl | rfl <;> rfl
set_option maxHeartbeats 4000000 in
theorem mM_near (l : Launch) (D : va_G) (cI cZ : ClassId) (wl : va_W) (n lo hi : Int32) : jI l yM_near w_M_near (rmD 0) D (jTys cI cZ) [.int n, .int lo, .int hi] wl wl (mNear n lo hi) := by
  refine jI_of (ws' := jG) rfl (by decide) rfl (Nat.le_of_ble_eq_true rfl) ?_
  intro X hF hk
  show jJ l D (rmD 0) 3 X wl 0 [(0, .int n), (1, .int lo), (2, .int hi)] []
  refine jq_iload_n (pc := 0) hF 0 dM_near_0 rfl ?_
  refine jq_iload_n (pc := 1) hF 1 dM_near_1 rfl ?_
  refine jq_icmp_ge (pc := 2) hF 9 dM_near_2 rfl (fun h2 => ?_) (fun h2 => ?_)
  · refine jq_iload_n (pc := 9) hF 0 dM_near_9 rfl ?_
    refine jq_iload_n (pc := 10) hF 2 dM_near_10 rfl ?_
    refine jq_icmp_le (pc := 11) hF 18 dM_near_11 rfl (fun h11 => ?_) (fun h11 => ?_)
    · refine jq_iload_n (pc := 18) hF 0 dM_near_18 rfl ?_
      exact jq_at (hk 19 _ dM_near_19) rfl rfl rfl (by rw [mNear, if_pos h2, if_pos h11])
    · refine jq_iload_n (pc := 14) hF 2 dM_near_14 rfl ?_
      refine jq_goto (pc := 15) hF 19 dM_near_15 rfl ?_
      exact jq_at (hk 19 _ dM_near_19) rfl rfl rfl (by rw [mNear, if_pos h2, if_neg h11])
  · refine jq_iload_n (pc := 5) hF 1 dM_near_5 rfl ?_
    refine jq_goto (pc := 6) hF 19 dM_near_6 rfl ?_
    exact jq_at (hk 19 _ dM_near_19) rfl rfl rfl (by rw [mNear, if_neg h2])
def rmK_P : Room := { frames := 1, cells := 9, slots := 120, locals := 40 }
set_option maxHeartbeats 8000000 in
set_option maxRecDepth 100000 in
theorem mP_init (l : Launch) (D : va_G) (cI cZ : ClassId) (h : Nat)  : jK l yP_init w_P_init rmK_P D (jTys cI cZ) [.ref h] [(h, .inr (1, [.int 0, .null, .int 0, .null, .null, .null, .int 0, .null, .null, .int 0, .null, .null, .null]))] (fun u => [(h, .inr (1, [.int 0, .ref (u 0), .int 0, .ref (u 1), .ref (u 2), .ref (u 3), .int 0, .ref (u 4), .ref (u 5), .int (-1), .ref (u 6), .ref (u 7), .ref (u 8)])), ((u 0), .inl (cI, 6, .inl (fun _ => 0))), ((u 1), .inl (cI, 10, .inl (fun _ => 0))), ((u 2), .inl (cI, 10, .inl (fun _ => 0))), ((u 3), .inl (cZ, 10, .inl (fun _ => 0))), ((u 4), .inl (cI, 6, .inl (fun _ => 0))), ((u 5), .inl (cI, 6, .inl (fun _ => 0))), ((u 6), .inl (cI, 24, .inl (fillF (fun _ => 0) ((-1)) 24))), ((u 7), .inl (cI, 24, .inl (fillF (fun _ => 0) ((-1)) 24))), ((u 8), .inl (cI, 24, .inl (fillF (fun _ => 0) ((-1)) 24)))]) := by
  refine jK_of (ws' := jG) (by decide) rfl rfl (Nat.le_of_ble_eq_true rfl) ?_
  intro X hF hni hk
  show jJ l D rmK_P 1 (jXc X 0 0) [(h, .inr (1, [.int 0, .null, .int 0, .null, .null, .null, .int 0, .null, .null, .int 0, .null, .null, .null]))] 0 [(0, .ref h)] []
  refine jq_aload_n (pc := 0) hF 0 dP_init_0 rfl ?_
  refine jq_objI (pc := 1) hF mO_P (Nat.le_of_ble_eq_true rfl) (Nat.le_of_ble_eq_true rfl) dP_init_1 ?_
  refine jq_aload_n (pc := 4) hF 0 dP_init_4 rfl ?_
  refine jq_bipush (pc := 5) hF dP_init_5 bi_6 ?_
  refine jq_newI (pc := 7) hF (by decide) (Nat.le_of_ble_eq_true rfl) (Nat.le_of_ble_eq_true rfl) dP_init_7 (fun q7 => ?_)
  have hF := jF_c hF (c2 := 1) (s2 := 6) (Nat.le_of_ble_eq_true rfl) (Nat.le_of_ble_eq_true rfl)
  refine jq_putF (pc := 9) hF hni (C := rP) (T := tP) (N := 13) [(h, .inr (1, [.int 0, .ref q7, .int 0, .null, .null, .null, .int 0, .null, .null, .int 0, .null, .null, .null])), (q7, .inl (cI, 6, .inl (fun _ => 0)))] inP tyP tkP nmP 0 rfl rfl 1 (by decide) mF_P_9 rfl rfl rfl rfl rfl (Nat.le_of_ble_eq_true rfl) rfl dP_init_9 ?_
  refine jq_aload_n (pc := 12) hF 0 dP_init_12 rfl ?_
  refine jq_bipush (pc := 13) hF dP_init_13 bi_10 ?_
  refine jq_newI (pc := 15) hF (by decide) (Nat.le_of_ble_eq_true rfl) (Nat.le_of_ble_eq_true rfl) dP_init_15 (fun q15 => ?_)
  have hF := jF_c hF (c2 := 2) (s2 := 16) (Nat.le_of_ble_eq_true rfl) (Nat.le_of_ble_eq_true rfl)
  refine jq_putF (pc := 17) hF hni (C := rP) (T := tP) (N := 13) [(h, .inr (1, [.int 0, .ref q7, .int 0, .ref q15, .null, .null, .int 0, .null, .null, .int 0, .null, .null, .null])), (q7, .inl (cI, 6, .inl (fun _ => 0))), (q15, .inl (cI, 10, .inl (fun _ => 0)))] inP tyP tkP nmP 0 rfl rfl 3 (by decide) mF_P_15 rfl rfl rfl rfl rfl (Nat.le_of_ble_eq_true rfl) rfl dP_init_17 ?_
  refine jq_aload_n (pc := 20) hF 0 dP_init_20 rfl ?_
  refine jq_bipush (pc := 21) hF dP_init_21 bi_10 ?_
  refine jq_newI (pc := 23) hF (by decide) (Nat.le_of_ble_eq_true rfl) (Nat.le_of_ble_eq_true rfl) dP_init_23 (fun q23 => ?_)
  have hF := jF_c hF (c2 := 3) (s2 := 26) (Nat.le_of_ble_eq_true rfl) (Nat.le_of_ble_eq_true rfl)
  refine jq_putF (pc := 25) hF hni (C := rP) (T := tP) (N := 13) [(h, .inr (1, [.int 0, .ref q7, .int 0, .ref q15, .ref q23, .null, .int 0, .null, .null, .int 0, .null, .null, .null])), (q7, .inl (cI, 6, .inl (fun _ => 0))), (q15, .inl (cI, 10, .inl (fun _ => 0))), (q23, .inl (cI, 10, .inl (fun _ => 0)))] inP tyP tkP nmP 0 rfl rfl 4 (by decide) mF_P_18 rfl rfl rfl rfl rfl (Nat.le_of_ble_eq_true rfl) rfl dP_init_25 ?_
  refine jq_aload_n (pc := 28) hF 0 dP_init_28 rfl ?_
  refine jq_bipush (pc := 29) hF dP_init_29 bi_10 ?_
  refine jq_newZ (pc := 31) hF (by decide) (Nat.le_of_ble_eq_true rfl) (Nat.le_of_ble_eq_true rfl) dP_init_31 (fun q31 => ?_)
  have hF := jF_c hF (c2 := 4) (s2 := 36) (Nat.le_of_ble_eq_true rfl) (Nat.le_of_ble_eq_true rfl)
  refine jq_putF (pc := 33) hF hni (C := rP) (T := tP) (N := 13) [(h, .inr (1, [.int 0, .ref q7, .int 0, .ref q15, .ref q23, .ref q31, .int 0, .null, .null, .int 0, .null, .null, .null])), (q7, .inl (cI, 6, .inl (fun _ => 0))), (q15, .inl (cI, 10, .inl (fun _ => 0))), (q23, .inl (cI, 10, .inl (fun _ => 0))), (q31, .inl (cZ, 10, .inl (fun _ => 0)))] inP tyP tkP nmP 0 rfl rfl 5 (by decide) mF_P_21 rfl rfl rfl rfl rfl (Nat.le_of_ble_eq_true rfl) rfl dP_init_33 ?_
  refine jq_aload_n (pc := 36) hF 0 dP_init_36 rfl ?_
  refine jq_bipush (pc := 37) hF dP_init_37 bi_6 ?_
  refine jq_newI (pc := 39) hF (by decide) (Nat.le_of_ble_eq_true rfl) (Nat.le_of_ble_eq_true rfl) dP_init_39 (fun q39 => ?_)
  have hF := jF_c hF (c2 := 5) (s2 := 42) (Nat.le_of_ble_eq_true rfl) (Nat.le_of_ble_eq_true rfl)
  refine jq_putF (pc := 41) hF hni (C := rP) (T := tP) (N := 13) [(h, .inr (1, [.int 0, .ref q7, .int 0, .ref q15, .ref q23, .ref q31, .int 0, .ref q39, .null, .int 0, .null, .null, .null])), (q7, .inl (cI, 6, .inl (fun _ => 0))), (q15, .inl (cI, 10, .inl (fun _ => 0))), (q23, .inl (cI, 10, .inl (fun _ => 0))), (q31, .inl (cZ, 10, .inl (fun _ => 0))), (q39, .inl (cI, 6, .inl (fun _ => 0)))] inP tyP tkP nmP 0 rfl rfl 7 (by decide) mF_P_25 rfl rfl rfl rfl rfl (Nat.le_of_ble_eq_true rfl) rfl dP_init_41 ?_
  refine jq_aload_n (pc := 44) hF 0 dP_init_44 rfl ?_
  refine jq_bipush (pc := 45) hF dP_init_45 bi_6 ?_
  refine jq_newI (pc := 47) hF (by decide) (Nat.le_of_ble_eq_true rfl) (Nat.le_of_ble_eq_true rfl) dP_init_47 (fun q47 => ?_)
  have hF := jF_c hF (c2 := 6) (s2 := 48) (Nat.le_of_ble_eq_true rfl) (Nat.le_of_ble_eq_true rfl)
  refine jq_putF (pc := 49) hF hni (C := rP) (T := tP) (N := 13) [(h, .inr (1, [.int 0, .ref q7, .int 0, .ref q15, .ref q23, .ref q31, .int 0, .ref q39, .ref q47, .int 0, .null, .null, .null])), (q7, .inl (cI, 6, .inl (fun _ => 0))), (q15, .inl (cI, 10, .inl (fun _ => 0))), (q23, .inl (cI, 10, .inl (fun _ => 0))), (q31, .inl (cZ, 10, .inl (fun _ => 0))), (q39, .inl (cI, 6, .inl (fun _ => 0))), (q47, .inl (cI, 6, .inl (fun _ => 0)))] inP tyP tkP nmP 0 rfl rfl 8 (by decide) mF_P_28 rfl rfl rfl rfl rfl (Nat.le_of_ble_eq_true rfl) rfl dP_init_49 ?_
  refine jq_aload_n (pc := 52) hF 0 dP_init_52 rfl ?_
  refine jq_iconst (pc := 53) hF dP_init_53 ic_m1 ?_
  refine jq_put (pc := 54) hF (C := rP) (T := tP) (N := 13) [(h, .inr (1, [.int 0, .ref q7, .int 0, .ref q15, .ref q23, .ref q31, .int 0, .ref q39, .ref q47, .int (-1), .null, .null, .null])), (q7, .inl (cI, 6, .inl (fun _ => 0))), (q15, .inl (cI, 10, .inl (fun _ => 0))), (q23, .inl (cI, 10, .inl (fun _ => 0))), (q31, .inl (cZ, 10, .inl (fun _ => 0))), (q39, .inl (cI, 6, .inl (fun _ => 0))), (q47, .inl (cI, 6, .inl (fun _ => 0)))] (fun w h => List.mem_cons_of_mem _ (inP w h)) tyP tkP nmP 0 rfl rfl 9 (by decide) (List.mem_cons_of_mem _ mF_P_31) rfl rfl rfl rfl (Nat.le_of_ble_eq_true rfl) rfl dP_init_54 ?_
  refine jq_aload_n (pc := 57) hF 0 dP_init_57 rfl ?_
  refine jq_bipush (pc := 58) hF dP_init_58 bi_24 ?_
  refine jq_newI (pc := 60) hF (by decide) (Nat.le_of_ble_eq_true rfl) (Nat.le_of_ble_eq_true rfl) dP_init_60 (fun q60 => ?_)
  have hF := jF_c hF (c2 := 7) (s2 := 72) (Nat.le_of_ble_eq_true rfl) (Nat.le_of_ble_eq_true rfl)
  refine jq_putF (pc := 62) hF hni (C := rP) (T := tP) (N := 13) [(h, .inr (1, [.int 0, .ref q7, .int 0, .ref q15, .ref q23, .ref q31, .int 0, .ref q39, .ref q47, .int (-1), .ref q60, .null, .null])), (q7, .inl (cI, 6, .inl (fun _ => 0))), (q15, .inl (cI, 10, .inl (fun _ => 0))), (q23, .inl (cI, 10, .inl (fun _ => 0))), (q31, .inl (cZ, 10, .inl (fun _ => 0))), (q39, .inl (cI, 6, .inl (fun _ => 0))), (q47, .inl (cI, 6, .inl (fun _ => 0))), (q60, .inl (cI, 24, .inl (fun _ => 0)))] inP tyP tkP nmP 0 rfl rfl 10 (by decide) mF_P_35 rfl rfl rfl rfl rfl (Nat.le_of_ble_eq_true rfl) rfl dP_init_62 ?_
  refine jq_aload_n (pc := 65) hF 0 dP_init_65 rfl ?_
  refine jq_bipush (pc := 66) hF dP_init_66 bi_24 ?_
  refine jq_newI (pc := 68) hF (by decide) (Nat.le_of_ble_eq_true rfl) (Nat.le_of_ble_eq_true rfl) dP_init_68 (fun q68 => ?_)
  have hF := jF_c hF (c2 := 8) (s2 := 96) (Nat.le_of_ble_eq_true rfl) (Nat.le_of_ble_eq_true rfl)
  refine jq_putF (pc := 70) hF hni (C := rP) (T := tP) (N := 13) [(h, .inr (1, [.int 0, .ref q7, .int 0, .ref q15, .ref q23, .ref q31, .int 0, .ref q39, .ref q47, .int (-1), .ref q60, .ref q68, .null])), (q7, .inl (cI, 6, .inl (fun _ => 0))), (q15, .inl (cI, 10, .inl (fun _ => 0))), (q23, .inl (cI, 10, .inl (fun _ => 0))), (q31, .inl (cZ, 10, .inl (fun _ => 0))), (q39, .inl (cI, 6, .inl (fun _ => 0))), (q47, .inl (cI, 6, .inl (fun _ => 0))), (q60, .inl (cI, 24, .inl (fun _ => 0))), (q68, .inl (cI, 24, .inl (fun _ => 0)))] inP tyP tkP nmP 0 rfl rfl 11 (by decide) mF_P_38 rfl rfl rfl rfl rfl (Nat.le_of_ble_eq_true rfl) rfl dP_init_70 ?_
  refine jq_aload_n (pc := 73) hF 0 dP_init_73 rfl ?_
  refine jq_bipush (pc := 74) hF dP_init_74 bi_24 ?_
  refine jq_newI (pc := 76) hF (by decide) (Nat.le_of_ble_eq_true rfl) (Nat.le_of_ble_eq_true rfl) dP_init_76 (fun q76 => ?_)
  have hF := jF_c hF (c2 := 9) (s2 := 120) (Nat.le_of_ble_eq_true rfl) (Nat.le_of_ble_eq_true rfl)
  refine jq_putF (pc := 78) hF hni (C := rP) (T := tP) (N := 13) [(h, .inr (1, [.int 0, .ref q7, .int 0, .ref q15, .ref q23, .ref q31, .int 0, .ref q39, .ref q47, .int (-1), .ref q60, .ref q68, .ref q76])), (q7, .inl (cI, 6, .inl (fun _ => 0))), (q15, .inl (cI, 10, .inl (fun _ => 0))), (q23, .inl (cI, 10, .inl (fun _ => 0))), (q31, .inl (cZ, 10, .inl (fun _ => 0))), (q39, .inl (cI, 6, .inl (fun _ => 0))), (q47, .inl (cI, 6, .inl (fun _ => 0))), (q60, .inl (cI, 24, .inl (fun _ => 0))), (q68, .inl (cI, 24, .inl (fun _ => 0))), (q76, .inl (cI, 24, .inl (fun _ => 0)))] inP tyP tkP nmP 0 rfl rfl 12 (by decide) mF_P_41 rfl rfl rfl rfl rfl (Nat.le_of_ble_eq_true rfl) rfl dP_init_78 ?_
  refine jq_aload_n (pc := 81) hF 0 dP_init_81 rfl ?_
  refine jq_get (pc := 82) hF (C := rP) (T := tP) (N := 13) (fun w h => List.mem_cons_of_mem _ (inP w h)) 0 rfl rfl 10 (by decide) (List.mem_cons_of_mem _ mF_P_35) rfl dP_init_82 ?_
  refine jq_iconst (pc := 85) hF dP_init_85 ic_m1 ?_
  refine jq_cF (pc := 86) hF (As := [.ref q60, .int (-1)]) (rest := []) (wr := [(h, .inr (1, [.int 0, .ref q7, .int 0, .ref q15, .ref q23, .ref q31, .int 0, .ref q39, .ref q47, .int (-1), .ref q60, .ref q68, .ref q76])), (q7, .inl (cI, 6, .inl (fun _ => 0))), (q15, .inl (cI, 10, .inl (fun _ => 0))), (q23, .inl (cI, 10, .inl (fun _ => 0))), (q31, .inl (cZ, 10, .inl (fun _ => 0))), (q39, .inl (cI, 6, .inl (fun _ => 0))), (q47, .inl (cI, 6, .inl (fun _ => 0))), (q68, .inl (cI, 24, .inl (fun _ => 0))), (q76, .inl (cI, 24, .inl (fun _ => 0)))]) [7] [0, 1, 2, 3, 4, 5, 6, 8, 9] rfl rfl rfl rfl rfl (by decide) (mA_fill l D cI cZ q60 24 (fun _ => 0) ((-1)) (by decide)) (jG_x mL_P_44 mT_A_fill mZ_A mC_A_fill) rfl rfl rfl dd_A_fill.2 ⟨(Nat.le_of_ble_eq_true rfl), (Nat.le_of_ble_eq_true rfl)⟩ rfl rfl (Nat.le_of_ble_eq_true rfl) dP_init_86 ?_
  refine jq_wsub [(h, .inr (1, [.int 0, .ref q7, .int 0, .ref q15, .ref q23, .ref q31, .int 0, .ref q39, .ref q47, .int (-1), .ref q60, .ref q68, .ref q76])), (q7, .inl (cI, 6, .inl (fun _ => 0))), (q15, .inl (cI, 10, .inl (fun _ => 0))), (q23, .inl (cI, 10, .inl (fun _ => 0))), (q31, .inl (cZ, 10, .inl (fun _ => 0))), (q39, .inl (cI, 6, .inl (fun _ => 0))), (q47, .inl (cI, 6, .inl (fun _ => 0))), (q60, .inl (cI, 24, .inl (fillF (fun _ => 0) ((-1)) 24))), (q68, .inl (cI, 24, .inl (fun _ => 0))), (q76, .inl (cI, 24, .inl (fun _ => 0)))] [0, 1, 2, 3, 4, 5, 6, 9, 7, 8] rfl rfl rfl ?_
  refine jq_aload_n (pc := 89) hF 0 dP_init_89 rfl ?_
  refine jq_get (pc := 90) hF (C := rP) (T := tP) (N := 13) (fun w h => List.mem_cons_of_mem _ (inP w h)) 0 rfl rfl 11 (by decide) (List.mem_cons_of_mem _ mF_P_38) rfl dP_init_90 ?_
  refine jq_iconst (pc := 93) hF dP_init_93 ic_m1 ?_
  refine jq_cF (pc := 94) hF (As := [.ref q68, .int (-1)]) (rest := []) (wr := [(h, .inr (1, [.int 0, .ref q7, .int 0, .ref q15, .ref q23, .ref q31, .int 0, .ref q39, .ref q47, .int (-1), .ref q60, .ref q68, .ref q76])), (q7, .inl (cI, 6, .inl (fun _ => 0))), (q15, .inl (cI, 10, .inl (fun _ => 0))), (q23, .inl (cI, 10, .inl (fun _ => 0))), (q31, .inl (cZ, 10, .inl (fun _ => 0))), (q39, .inl (cI, 6, .inl (fun _ => 0))), (q47, .inl (cI, 6, .inl (fun _ => 0))), (q60, .inl (cI, 24, .inl (fillF (fun _ => 0) ((-1)) 24))), (q76, .inl (cI, 24, .inl (fun _ => 0)))]) [8] [0, 1, 2, 3, 4, 5, 6, 7, 9] rfl rfl rfl rfl rfl (by decide) (mA_fill l D cI cZ q68 24 (fun _ => 0) ((-1)) (by decide)) (jG_x mL_P_44 mT_A_fill mZ_A mC_A_fill) rfl rfl rfl dd_A_fill.2 ⟨(Nat.le_of_ble_eq_true rfl), (Nat.le_of_ble_eq_true rfl)⟩ rfl rfl (Nat.le_of_ble_eq_true rfl) dP_init_94 ?_
  refine jq_wsub [(h, .inr (1, [.int 0, .ref q7, .int 0, .ref q15, .ref q23, .ref q31, .int 0, .ref q39, .ref q47, .int (-1), .ref q60, .ref q68, .ref q76])), (q7, .inl (cI, 6, .inl (fun _ => 0))), (q15, .inl (cI, 10, .inl (fun _ => 0))), (q23, .inl (cI, 10, .inl (fun _ => 0))), (q31, .inl (cZ, 10, .inl (fun _ => 0))), (q39, .inl (cI, 6, .inl (fun _ => 0))), (q47, .inl (cI, 6, .inl (fun _ => 0))), (q60, .inl (cI, 24, .inl (fillF (fun _ => 0) ((-1)) 24))), (q68, .inl (cI, 24, .inl (fillF (fun _ => 0) ((-1)) 24))), (q76, .inl (cI, 24, .inl (fun _ => 0)))] [0, 1, 2, 3, 4, 5, 6, 7, 9, 8] rfl rfl rfl ?_
  refine jq_aload_n (pc := 97) hF 0 dP_init_97 rfl ?_
  refine jq_get (pc := 98) hF (C := rP) (T := tP) (N := 13) (fun w h => List.mem_cons_of_mem _ (inP w h)) 0 rfl rfl 12 (by decide) (List.mem_cons_of_mem _ mF_P_41) rfl dP_init_98 ?_
  refine jq_iconst (pc := 101) hF dP_init_101 ic_m1 ?_
  refine jq_cF (pc := 102) hF (As := [.ref q76, .int (-1)]) (rest := []) (wr := [(h, .inr (1, [.int 0, .ref q7, .int 0, .ref q15, .ref q23, .ref q31, .int 0, .ref q39, .ref q47, .int (-1), .ref q60, .ref q68, .ref q76])), (q7, .inl (cI, 6, .inl (fun _ => 0))), (q15, .inl (cI, 10, .inl (fun _ => 0))), (q23, .inl (cI, 10, .inl (fun _ => 0))), (q31, .inl (cZ, 10, .inl (fun _ => 0))), (q39, .inl (cI, 6, .inl (fun _ => 0))), (q47, .inl (cI, 6, .inl (fun _ => 0))), (q60, .inl (cI, 24, .inl (fillF (fun _ => 0) ((-1)) 24))), (q68, .inl (cI, 24, .inl (fillF (fun _ => 0) ((-1)) 24)))]) [9] [0, 1, 2, 3, 4, 5, 6, 7, 8] rfl rfl rfl rfl rfl (by decide) (mA_fill l D cI cZ q76 24 (fun _ => 0) ((-1)) (by decide)) (jG_x mL_P_44 mT_A_fill mZ_A mC_A_fill) rfl rfl rfl dd_A_fill.2 ⟨(Nat.le_of_ble_eq_true rfl), (Nat.le_of_ble_eq_true rfl)⟩ rfl rfl (Nat.le_of_ble_eq_true rfl) dP_init_102 ?_
  refine jq_wsub [(h, .inr (1, [.int 0, .ref q7, .int 0, .ref q15, .ref q23, .ref q31, .int 0, .ref q39, .ref q47, .int (-1), .ref q60, .ref q68, .ref q76])), (q7, .inl (cI, 6, .inl (fun _ => 0))), (q15, .inl (cI, 10, .inl (fun _ => 0))), (q23, .inl (cI, 10, .inl (fun _ => 0))), (q31, .inl (cZ, 10, .inl (fun _ => 0))), (q39, .inl (cI, 6, .inl (fun _ => 0))), (q47, .inl (cI, 6, .inl (fun _ => 0))), (q60, .inl (cI, 24, .inl (fillF (fun _ => 0) ((-1)) 24))), (q68, .inl (cI, 24, .inl (fillF (fun _ => 0) ((-1)) 24))), (q76, .inl (cI, 24, .inl (fillF (fun _ => 0) ((-1)) 24)))] [0, 1, 2, 3, 4, 5, 6, 7, 8, 9] rfl rfl rfl ?_
  exact jq_at (hk (fun i => [q7, q15, q23, q31, q39, q47, q60, q68, q76].getD i 0) 105 _ dP_init_105) rfl rfl rfl rfl
def rmK_W : Room := { frames := 1, cells := 3, slots := 72, locals := 40 }
set_option maxHeartbeats 8000000 in
set_option maxRecDepth 100000 in
theorem mW_init (l : Launch) (D : va_G) (cI cZ : ClassId) (h : Nat)  : jK l yW_init w_W_init rmK_W D (jTys cI cZ) [.ref h] [(h, .inr (2, [.null, .null, .null]))] (fun u => [(h, .inr (2, [.ref (u 0), .ref (u 1), .ref (u 2)])), ((u 0), .inl (cI, 24, .inl (fun _ => 0))), ((u 1), .inl (cI, 24, .inl (fillF (fun _ => 0) ((nI 1)) 24))), ((u 2), .inl (cZ, 24, .inl (fun _ => 0)))]) := by
  refine jK_of (ws' := jG) (by decide) rfl rfl (Nat.le_of_ble_eq_true rfl) ?_
  intro X hF hni hk
  show jJ l D rmK_W 1 (jXc X 0 0) [(h, .inr (2, [.null, .null, .null]))] 0 [(0, .ref h)] []
  refine jq_aload_n (pc := 0) hF 0 dW_init_0 rfl ?_
  refine jq_objI (pc := 1) hF mO_W (Nat.le_of_ble_eq_true rfl) (Nat.le_of_ble_eq_true rfl) dW_init_1 ?_
  refine jq_aload_n (pc := 4) hF 0 dW_init_4 rfl ?_
  refine jq_bipush (pc := 5) hF dW_init_5 bi_24 ?_
  refine jq_newI (pc := 7) hF (by decide) (Nat.le_of_ble_eq_true rfl) (Nat.le_of_ble_eq_true rfl) dW_init_7 (fun q7 => ?_)
  have hF := jF_c hF (c2 := 1) (s2 := 24) (Nat.le_of_ble_eq_true rfl) (Nat.le_of_ble_eq_true rfl)
  refine jq_putF (pc := 9) hF hni (C := rW) (T := tW) (N := 3) [(h, .inr (2, [.ref q7, .null, .null])), (q7, .inl (cI, 24, .inl (fun _ => 0)))] inW tyW tkW nmW 0 rfl rfl 0 (by decide) mF_W_9 rfl rfl rfl rfl rfl (Nat.le_of_ble_eq_true rfl) rfl dW_init_9 ?_
  refine jq_aload_n (pc := 12) hF 0 dW_init_12 rfl ?_
  refine jq_bipush (pc := 13) hF dW_init_13 bi_24 ?_
  refine jq_newI (pc := 15) hF (by decide) (Nat.le_of_ble_eq_true rfl) (Nat.le_of_ble_eq_true rfl) dW_init_15 (fun q15 => ?_)
  have hF := jF_c hF (c2 := 2) (s2 := 48) (Nat.le_of_ble_eq_true rfl) (Nat.le_of_ble_eq_true rfl)
  refine jq_putF (pc := 17) hF hni (C := rW) (T := tW) (N := 3) [(h, .inr (2, [.ref q7, .ref q15, .null])), (q7, .inl (cI, 24, .inl (fun _ => 0))), (q15, .inl (cI, 24, .inl (fun _ => 0)))] inW tyW tkW nmW 0 rfl rfl 1 (by decide) mF_W_15 rfl rfl rfl rfl rfl (Nat.le_of_ble_eq_true rfl) rfl dW_init_17 ?_
  refine jq_aload_n (pc := 20) hF 0 dW_init_20 rfl ?_
  refine jq_bipush (pc := 21) hF dW_init_21 bi_24 ?_
  refine jq_newZ (pc := 23) hF (by decide) (Nat.le_of_ble_eq_true rfl) (Nat.le_of_ble_eq_true rfl) dW_init_23 (fun q23 => ?_)
  have hF := jF_c hF (c2 := 3) (s2 := 72) (Nat.le_of_ble_eq_true rfl) (Nat.le_of_ble_eq_true rfl)
  refine jq_putF (pc := 25) hF hni (C := rW) (T := tW) (N := 3) [(h, .inr (2, [.ref q7, .ref q15, .ref q23])), (q7, .inl (cI, 24, .inl (fun _ => 0))), (q15, .inl (cI, 24, .inl (fun _ => 0))), (q23, .inl (cZ, 24, .inl (fun _ => 0)))] inW tyW tkW nmW 0 rfl rfl 2 (by decide) mF_W_18 rfl rfl rfl rfl rfl (Nat.le_of_ble_eq_true rfl) rfl dW_init_25 ?_
  refine jq_aload_n (pc := 28) hF 0 dW_init_28 rfl ?_
  refine jq_get (pc := 29) hF (C := rW) (T := tW) (N := 3) (fun w h => List.mem_cons_of_mem _ (inW w h)) 0 rfl rfl 1 (by decide) (List.mem_cons_of_mem _ mF_W_15) rfl dW_init_29 ?_
  refine jq_iconst (pc := 32) hF dW_init_32 ic_1 ?_
  refine jq_cF (pc := 33) hF (As := [.ref q15, .int (nI 1)]) (rest := []) (wr := [(h, .inr (2, [.ref q7, .ref q15, .ref q23])), (q7, .inl (cI, 24, .inl (fun _ => 0))), (q23, .inl (cZ, 24, .inl (fun _ => 0)))]) [2] [0, 1, 3] rfl rfl rfl rfl rfl (by decide) (mA_fill l D cI cZ q15 24 (fun _ => 0) ((nI 1)) (by decide)) (jG_x mL_W_22 mT_A_fill mZ_A mC_A_fill) rfl rfl rfl dd_A_fill.2 ⟨(Nat.le_of_ble_eq_true rfl), (Nat.le_of_ble_eq_true rfl)⟩ rfl rfl (Nat.le_of_ble_eq_true rfl) dW_init_33 ?_
  refine jq_wsub [(h, .inr (2, [.ref q7, .ref q15, .ref q23])), (q7, .inl (cI, 24, .inl (fun _ => 0))), (q15, .inl (cI, 24, .inl (fillF (fun _ => 0) ((nI 1)) 24))), (q23, .inl (cZ, 24, .inl (fun _ => 0)))] [0, 1, 3, 2] rfl rfl rfl ?_
  exact jq_at (hk (fun i => [q7, q15, q23].getD i 0) 36 _ dW_init_36) rfl rfl rfl rfl
def rmK_B : Room := { frames := 1, cells := 2, slots := 336, locals := 40 }
set_option maxHeartbeats 8000000 in
set_option maxRecDepth 100000 in
theorem mB_init (l : Launch) (D : va_G) (cI cZ : ClassId) (h : Nat)  : jK l yB_init w_B_init rmK_B D (jTys cI cZ) [.ref h] [(h, .inr (4, [.null, .null]))] (fun u => [(h, .inr (4, [.ref (u 0), .ref (u 1)])), ((u 0), .inl (cI, 168, .inl (fillF (fun _ => 0) ((-1)) 168))), ((u 1), .inl (cI, 168, .inl (fun _ => 0)))]) := by
  refine jK_of (ws' := jG) (by decide) rfl rfl (Nat.le_of_ble_eq_true rfl) ?_
  intro X hF hni hk
  show jJ l D rmK_B 1 (jXc X 0 0) [(h, .inr (4, [.null, .null]))] 0 [(0, .ref h)] []
  refine jq_aload_n (pc := 0) hF 0 dB_init_0 rfl ?_
  refine jq_objI (pc := 1) hF mO_B (Nat.le_of_ble_eq_true rfl) (Nat.le_of_ble_eq_true rfl) dB_init_1 ?_
  refine jq_aload_n (pc := 4) hF 0 dB_init_4 rfl ?_
  refine jq_sipush (pc := 5) hF dB_init_5 si_168 ?_
  refine jq_newI (pc := 8) hF (by decide) (Nat.le_of_ble_eq_true rfl) (Nat.le_of_ble_eq_true rfl) dB_init_8 (fun q8 => ?_)
  have hF := jF_c hF (c2 := 1) (s2 := 168) (Nat.le_of_ble_eq_true rfl) (Nat.le_of_ble_eq_true rfl)
  refine jq_putF (pc := 10) hF hni (C := rB) (T := tB) (N := 2) [(h, .inr (4, [.ref q8, .null])), (q8, .inl (cI, 168, .inl (fun _ => 0)))] inB tyB tkB nmB 0 rfl rfl 0 (by decide) mF_B_11 rfl rfl rfl rfl rfl (Nat.le_of_ble_eq_true rfl) rfl dB_init_10 ?_
  refine jq_aload_n (pc := 13) hF 0 dB_init_13 rfl ?_
  refine jq_sipush (pc := 14) hF dB_init_14 si_168 ?_
  refine jq_newI (pc := 17) hF (by decide) (Nat.le_of_ble_eq_true rfl) (Nat.le_of_ble_eq_true rfl) dB_init_17 (fun q17 => ?_)
  have hF := jF_c hF (c2 := 2) (s2 := 336) (Nat.le_of_ble_eq_true rfl) (Nat.le_of_ble_eq_true rfl)
  refine jq_putF (pc := 19) hF hni (C := rB) (T := tB) (N := 2) [(h, .inr (4, [.ref q8, .ref q17])), (q8, .inl (cI, 168, .inl (fun _ => 0))), (q17, .inl (cI, 168, .inl (fun _ => 0)))] inB tyB tkB nmB 0 rfl rfl 1 (by decide) mF_B_15 rfl rfl rfl rfl rfl (Nat.le_of_ble_eq_true rfl) rfl dB_init_19 ?_
  refine jq_aload_n (pc := 22) hF 0 dB_init_22 rfl ?_
  refine jq_get (pc := 23) hF (C := rB) (T := tB) (N := 2) (fun w h => List.mem_cons_of_mem _ (inB w h)) 0 rfl rfl 0 (by decide) (List.mem_cons_of_mem _ mF_B_11) rfl dB_init_23 ?_
  refine jq_iconst (pc := 26) hF dB_init_26 ic_m1 ?_
  refine jq_cF (pc := 27) hF (As := [.ref q8, .int (-1)]) (rest := []) (wr := [(h, .inr (4, [.ref q8, .ref q17])), (q17, .inl (cI, 168, .inl (fun _ => 0)))]) [1] [0, 2] rfl rfl rfl rfl rfl (by decide) (mA_fill l D cI cZ q8 168 (fun _ => 0) ((-1)) (by decide)) (jG_x mL_B_18 mT_A_fill mZ_A mC_A_fill) rfl rfl rfl dd_A_fill.2 ⟨(Nat.le_of_ble_eq_true rfl), (Nat.le_of_ble_eq_true rfl)⟩ rfl rfl (Nat.le_of_ble_eq_true rfl) dB_init_27 ?_
  refine jq_wsub [(h, .inr (4, [.ref q8, .ref q17])), (q8, .inl (cI, 168, .inl (fillF (fun _ => 0) ((-1)) 168))), (q17, .inl (cI, 168, .inl (fun _ => 0)))] [0, 2, 1] rfl rfl rfl ?_
  exact jq_at (hk (fun i => [q8, q17].getD i 0) 30 _ dB_init_30) rfl rfl rfl rfl
def rmK_T : Room := { frames := 1, cells := 13, slots := 444, locals := 40 }
set_option maxHeartbeats 8000000 in
set_option maxRecDepth 100000 in
theorem mT_init (l : Launch) (D : va_G) (cI cZ : ClassId) (h : Nat) (b : Nat) (li : Int32) (de : Int32) : jK l yT_init w_T_init rmK_T D (jTys cI cZ) [.ref h, .ref b, .int li, .int de] [(h, .inr (3, [.null, .int 0, .int 0, .int 0, .null, .null, .null, .null, .null, .null, .null, .null, .null, .null, .null, .null, .null]))] (fun u => [(h, .inr (3, [.ref b, .int li, .int de, .int 0, .ref (u 0), .ref (u 1), .ref (u 2), .ref (u 3), .ref (u 4), .ref (u 5), .ref (u 6), .ref (u 7), .ref (u 8), .ref (u 9), .ref (u 10), .ref (u 11), .ref (u 12)])), ((u 0), .inl (cI, 144, .inl (fun _ => 0))), ((u 1), .inl (cZ, 24, .inl (fun _ => 0))), ((u 2), .inl (cI, 144, .inl (fun _ => 0))), ((u 3), .inl (cZ, 24, .inl (fun _ => 0))), ((u 4), .inl (cI, 6, .inl (fun _ => 0))), ((u 5), .inl (cI, 6, .inl (fun _ => 0))), ((u 6), .inl (cI, 6, .inl (fillF (fun _ => 0) ((-1)) 6))), ((u 7), .inl (cI, 24, .inl (fun _ => 0))), ((u 8), .inl (cI, 24, .inl (fun _ => 0))), ((u 9), .inl (cI, 24, .inl (fun _ => 0))), ((u 10), .inl (cI, 6, .inl (fun _ => 0))), ((u 11), .inl (cZ, 6, .inl (fun _ => 0))), ((u 12), .inl (cZ, 6, .inl (fun _ => 0)))]) := by
  refine jK_of (ws' := jG) (by decide) rfl rfl (Nat.le_of_ble_eq_true rfl) ?_
  intro X hF hni hk
  show jJ l D rmK_T 4 (jXc X 0 0) [(h, .inr (3, [.null, .int 0, .int 0, .int 0, .null, .null, .null, .null, .null, .null, .null, .null, .null, .null, .null, .null, .null]))] 0 [(0, .ref h), (1, .ref b), (2, .int li), (3, .int de)] []
  refine jq_aload_n (pc := 0) hF 0 dT_init_0 rfl ?_
  refine jq_objI (pc := 1) hF mO_T (Nat.le_of_ble_eq_true rfl) (Nat.le_of_ble_eq_true rfl) dT_init_1 ?_
  refine jq_aload_n (pc := 4) hF 0 dT_init_4 rfl ?_
  refine jq_sipush (pc := 5) hF dT_init_5 si_144 ?_
  refine jq_newI (pc := 8) hF (by decide) (Nat.le_of_ble_eq_true rfl) (Nat.le_of_ble_eq_true rfl) dT_init_8 (fun q8 => ?_)
  have hF := jF_c hF (c2 := 1) (s2 := 144) (Nat.le_of_ble_eq_true rfl) (Nat.le_of_ble_eq_true rfl)
  refine jq_putF (pc := 10) hF hni (C := rT) (T := tT) (N := 17) [(h, .inr (3, [.null, .int 0, .int 0, .int 0, .ref q8, .null, .null, .null, .null, .null, .null, .null, .null, .null, .null, .null, .null])), (q8, .inl (cI, 144, .inl (fun _ => 0)))] inT tyT tkT nmT 0 rfl rfl 4 (by decide) mF_T_11 rfl rfl rfl rfl rfl (Nat.le_of_ble_eq_true rfl) rfl dT_init_10 ?_
  refine jq_aload_n (pc := 13) hF 0 dT_init_13 rfl ?_
  refine jq_bipush (pc := 14) hF dT_init_14 bi_24 ?_
  refine jq_newZ (pc := 16) hF (by decide) (Nat.le_of_ble_eq_true rfl) (Nat.le_of_ble_eq_true rfl) dT_init_16 (fun q16 => ?_)
  have hF := jF_c hF (c2 := 2) (s2 := 168) (Nat.le_of_ble_eq_true rfl) (Nat.le_of_ble_eq_true rfl)
  refine jq_putF (pc := 18) hF hni (C := rT) (T := tT) (N := 17) [(h, .inr (3, [.null, .int 0, .int 0, .int 0, .ref q8, .ref q16, .null, .null, .null, .null, .null, .null, .null, .null, .null, .null, .null])), (q8, .inl (cI, 144, .inl (fun _ => 0))), (q16, .inl (cZ, 24, .inl (fun _ => 0)))] inT tyT tkT nmT 0 rfl rfl 5 (by decide) mF_T_15 rfl rfl rfl rfl rfl (Nat.le_of_ble_eq_true rfl) rfl dT_init_18 ?_
  refine jq_aload_n (pc := 21) hF 0 dT_init_21 rfl ?_
  refine jq_sipush (pc := 22) hF dT_init_22 si_144 ?_
  refine jq_newI (pc := 25) hF (by decide) (Nat.le_of_ble_eq_true rfl) (Nat.le_of_ble_eq_true rfl) dT_init_25 (fun q25 => ?_)
  have hF := jF_c hF (c2 := 3) (s2 := 312) (Nat.le_of_ble_eq_true rfl) (Nat.le_of_ble_eq_true rfl)
  refine jq_putF (pc := 27) hF hni (C := rT) (T := tT) (N := 17) [(h, .inr (3, [.null, .int 0, .int 0, .int 0, .ref q8, .ref q16, .ref q25, .null, .null, .null, .null, .null, .null, .null, .null, .null, .null])), (q8, .inl (cI, 144, .inl (fun _ => 0))), (q16, .inl (cZ, 24, .inl (fun _ => 0))), (q25, .inl (cI, 144, .inl (fun _ => 0)))] inT tyT tkT nmT 0 rfl rfl 6 (by decide) mF_T_19 rfl rfl rfl rfl rfl (Nat.le_of_ble_eq_true rfl) rfl dT_init_27 ?_
  refine jq_aload_n (pc := 30) hF 0 dT_init_30 rfl ?_
  refine jq_bipush (pc := 31) hF dT_init_31 bi_24 ?_
  refine jq_newZ (pc := 33) hF (by decide) (Nat.le_of_ble_eq_true rfl) (Nat.le_of_ble_eq_true rfl) dT_init_33 (fun q33 => ?_)
  have hF := jF_c hF (c2 := 4) (s2 := 336) (Nat.le_of_ble_eq_true rfl) (Nat.le_of_ble_eq_true rfl)
  refine jq_putF (pc := 35) hF hni (C := rT) (T := tT) (N := 17) [(h, .inr (3, [.null, .int 0, .int 0, .int 0, .ref q8, .ref q16, .ref q25, .ref q33, .null, .null, .null, .null, .null, .null, .null, .null, .null])), (q8, .inl (cI, 144, .inl (fun _ => 0))), (q16, .inl (cZ, 24, .inl (fun _ => 0))), (q25, .inl (cI, 144, .inl (fun _ => 0))), (q33, .inl (cZ, 24, .inl (fun _ => 0)))] inT tyT tkT nmT 0 rfl rfl 7 (by decide) mF_T_22 rfl rfl rfl rfl rfl (Nat.le_of_ble_eq_true rfl) rfl dT_init_35 ?_
  refine jq_aload_n (pc := 38) hF 0 dT_init_38 rfl ?_
  refine jq_bipush (pc := 39) hF dT_init_39 bi_6 ?_
  refine jq_newI (pc := 41) hF (by decide) (Nat.le_of_ble_eq_true rfl) (Nat.le_of_ble_eq_true rfl) dT_init_41 (fun q41 => ?_)
  have hF := jF_c hF (c2 := 5) (s2 := 342) (Nat.le_of_ble_eq_true rfl) (Nat.le_of_ble_eq_true rfl)
  refine jq_putF (pc := 43) hF hni (C := rT) (T := tT) (N := 17) [(h, .inr (3, [.null, .int 0, .int 0, .int 0, .ref q8, .ref q16, .ref q25, .ref q33, .ref q41, .null, .null, .null, .null, .null, .null, .null, .null])), (q8, .inl (cI, 144, .inl (fun _ => 0))), (q16, .inl (cZ, 24, .inl (fun _ => 0))), (q25, .inl (cI, 144, .inl (fun _ => 0))), (q33, .inl (cZ, 24, .inl (fun _ => 0))), (q41, .inl (cI, 6, .inl (fun _ => 0)))] inT tyT tkT nmT 0 rfl rfl 8 (by decide) mF_T_25 rfl rfl rfl rfl rfl (Nat.le_of_ble_eq_true rfl) rfl dT_init_43 ?_
  refine jq_aload_n (pc := 46) hF 0 dT_init_46 rfl ?_
  refine jq_bipush (pc := 47) hF dT_init_47 bi_6 ?_
  refine jq_newI (pc := 49) hF (by decide) (Nat.le_of_ble_eq_true rfl) (Nat.le_of_ble_eq_true rfl) dT_init_49 (fun q49 => ?_)
  have hF := jF_c hF (c2 := 6) (s2 := 348) (Nat.le_of_ble_eq_true rfl) (Nat.le_of_ble_eq_true rfl)
  refine jq_putF (pc := 51) hF hni (C := rT) (T := tT) (N := 17) [(h, .inr (3, [.null, .int 0, .int 0, .int 0, .ref q8, .ref q16, .ref q25, .ref q33, .ref q41, .ref q49, .null, .null, .null, .null, .null, .null, .null])), (q8, .inl (cI, 144, .inl (fun _ => 0))), (q16, .inl (cZ, 24, .inl (fun _ => 0))), (q25, .inl (cI, 144, .inl (fun _ => 0))), (q33, .inl (cZ, 24, .inl (fun _ => 0))), (q41, .inl (cI, 6, .inl (fun _ => 0))), (q49, .inl (cI, 6, .inl (fun _ => 0)))] inT tyT tkT nmT 0 rfl rfl 9 (by decide) mF_T_28 rfl rfl rfl rfl rfl (Nat.le_of_ble_eq_true rfl) rfl dT_init_51 ?_
  refine jq_aload_n (pc := 54) hF 0 dT_init_54 rfl ?_
  refine jq_bipush (pc := 55) hF dT_init_55 bi_6 ?_
  refine jq_newI (pc := 57) hF (by decide) (Nat.le_of_ble_eq_true rfl) (Nat.le_of_ble_eq_true rfl) dT_init_57 (fun q57 => ?_)
  have hF := jF_c hF (c2 := 7) (s2 := 354) (Nat.le_of_ble_eq_true rfl) (Nat.le_of_ble_eq_true rfl)
  refine jq_putF (pc := 59) hF hni (C := rT) (T := tT) (N := 17) [(h, .inr (3, [.null, .int 0, .int 0, .int 0, .ref q8, .ref q16, .ref q25, .ref q33, .ref q41, .ref q49, .ref q57, .null, .null, .null, .null, .null, .null])), (q8, .inl (cI, 144, .inl (fun _ => 0))), (q16, .inl (cZ, 24, .inl (fun _ => 0))), (q25, .inl (cI, 144, .inl (fun _ => 0))), (q33, .inl (cZ, 24, .inl (fun _ => 0))), (q41, .inl (cI, 6, .inl (fun _ => 0))), (q49, .inl (cI, 6, .inl (fun _ => 0))), (q57, .inl (cI, 6, .inl (fun _ => 0)))] inT tyT tkT nmT 0 rfl rfl 10 (by decide) mF_T_31 rfl rfl rfl rfl rfl (Nat.le_of_ble_eq_true rfl) rfl dT_init_59 ?_
  refine jq_aload_n (pc := 62) hF 0 dT_init_62 rfl ?_
  refine jq_bipush (pc := 63) hF dT_init_63 bi_24 ?_
  refine jq_newI (pc := 65) hF (by decide) (Nat.le_of_ble_eq_true rfl) (Nat.le_of_ble_eq_true rfl) dT_init_65 (fun q65 => ?_)
  have hF := jF_c hF (c2 := 8) (s2 := 378) (Nat.le_of_ble_eq_true rfl) (Nat.le_of_ble_eq_true rfl)
  refine jq_putF (pc := 67) hF hni (C := rT) (T := tT) (N := 17) [(h, .inr (3, [.null, .int 0, .int 0, .int 0, .ref q8, .ref q16, .ref q25, .ref q33, .ref q41, .ref q49, .ref q57, .ref q65, .null, .null, .null, .null, .null])), (q8, .inl (cI, 144, .inl (fun _ => 0))), (q16, .inl (cZ, 24, .inl (fun _ => 0))), (q25, .inl (cI, 144, .inl (fun _ => 0))), (q33, .inl (cZ, 24, .inl (fun _ => 0))), (q41, .inl (cI, 6, .inl (fun _ => 0))), (q49, .inl (cI, 6, .inl (fun _ => 0))), (q57, .inl (cI, 6, .inl (fun _ => 0))), (q65, .inl (cI, 24, .inl (fun _ => 0)))] inT tyT tkT nmT 0 rfl rfl 11 (by decide) mF_T_34 rfl rfl rfl rfl rfl (Nat.le_of_ble_eq_true rfl) rfl dT_init_67 ?_
  refine jq_aload_n (pc := 70) hF 0 dT_init_70 rfl ?_
  refine jq_bipush (pc := 71) hF dT_init_71 bi_24 ?_
  refine jq_newI (pc := 73) hF (by decide) (Nat.le_of_ble_eq_true rfl) (Nat.le_of_ble_eq_true rfl) dT_init_73 (fun q73 => ?_)
  have hF := jF_c hF (c2 := 9) (s2 := 402) (Nat.le_of_ble_eq_true rfl) (Nat.le_of_ble_eq_true rfl)
  refine jq_putF (pc := 75) hF hni (C := rT) (T := tT) (N := 17) [(h, .inr (3, [.null, .int 0, .int 0, .int 0, .ref q8, .ref q16, .ref q25, .ref q33, .ref q41, .ref q49, .ref q57, .ref q65, .ref q73, .null, .null, .null, .null])), (q8, .inl (cI, 144, .inl (fun _ => 0))), (q16, .inl (cZ, 24, .inl (fun _ => 0))), (q25, .inl (cI, 144, .inl (fun _ => 0))), (q33, .inl (cZ, 24, .inl (fun _ => 0))), (q41, .inl (cI, 6, .inl (fun _ => 0))), (q49, .inl (cI, 6, .inl (fun _ => 0))), (q57, .inl (cI, 6, .inl (fun _ => 0))), (q65, .inl (cI, 24, .inl (fun _ => 0))), (q73, .inl (cI, 24, .inl (fun _ => 0)))] inT tyT tkT nmT 0 rfl rfl 12 (by decide) mF_T_37 rfl rfl rfl rfl rfl (Nat.le_of_ble_eq_true rfl) rfl dT_init_75 ?_
  refine jq_aload_n (pc := 78) hF 0 dT_init_78 rfl ?_
  refine jq_bipush (pc := 79) hF dT_init_79 bi_24 ?_
  refine jq_newI (pc := 81) hF (by decide) (Nat.le_of_ble_eq_true rfl) (Nat.le_of_ble_eq_true rfl) dT_init_81 (fun q81 => ?_)
  have hF := jF_c hF (c2 := 10) (s2 := 426) (Nat.le_of_ble_eq_true rfl) (Nat.le_of_ble_eq_true rfl)
  refine jq_putF (pc := 83) hF hni (C := rT) (T := tT) (N := 17) [(h, .inr (3, [.null, .int 0, .int 0, .int 0, .ref q8, .ref q16, .ref q25, .ref q33, .ref q41, .ref q49, .ref q57, .ref q65, .ref q73, .ref q81, .null, .null, .null])), (q8, .inl (cI, 144, .inl (fun _ => 0))), (q16, .inl (cZ, 24, .inl (fun _ => 0))), (q25, .inl (cI, 144, .inl (fun _ => 0))), (q33, .inl (cZ, 24, .inl (fun _ => 0))), (q41, .inl (cI, 6, .inl (fun _ => 0))), (q49, .inl (cI, 6, .inl (fun _ => 0))), (q57, .inl (cI, 6, .inl (fun _ => 0))), (q65, .inl (cI, 24, .inl (fun _ => 0))), (q73, .inl (cI, 24, .inl (fun _ => 0))), (q81, .inl (cI, 24, .inl (fun _ => 0)))] inT tyT tkT nmT 0 rfl rfl 13 (by decide) mF_T_40 rfl rfl rfl rfl rfl (Nat.le_of_ble_eq_true rfl) rfl dT_init_83 ?_
  refine jq_aload_n (pc := 86) hF 0 dT_init_86 rfl ?_
  refine jq_bipush (pc := 87) hF dT_init_87 bi_6 ?_
  refine jq_newI (pc := 89) hF (by decide) (Nat.le_of_ble_eq_true rfl) (Nat.le_of_ble_eq_true rfl) dT_init_89 (fun q89 => ?_)
  have hF := jF_c hF (c2 := 11) (s2 := 432) (Nat.le_of_ble_eq_true rfl) (Nat.le_of_ble_eq_true rfl)
  refine jq_putF (pc := 91) hF hni (C := rT) (T := tT) (N := 17) [(h, .inr (3, [.null, .int 0, .int 0, .int 0, .ref q8, .ref q16, .ref q25, .ref q33, .ref q41, .ref q49, .ref q57, .ref q65, .ref q73, .ref q81, .ref q89, .null, .null])), (q8, .inl (cI, 144, .inl (fun _ => 0))), (q16, .inl (cZ, 24, .inl (fun _ => 0))), (q25, .inl (cI, 144, .inl (fun _ => 0))), (q33, .inl (cZ, 24, .inl (fun _ => 0))), (q41, .inl (cI, 6, .inl (fun _ => 0))), (q49, .inl (cI, 6, .inl (fun _ => 0))), (q57, .inl (cI, 6, .inl (fun _ => 0))), (q65, .inl (cI, 24, .inl (fun _ => 0))), (q73, .inl (cI, 24, .inl (fun _ => 0))), (q81, .inl (cI, 24, .inl (fun _ => 0))), (q89, .inl (cI, 6, .inl (fun _ => 0)))] inT tyT tkT nmT 0 rfl rfl 14 (by decide) mF_T_43 rfl rfl rfl rfl rfl (Nat.le_of_ble_eq_true rfl) rfl dT_init_91 ?_
  refine jq_aload_n (pc := 94) hF 0 dT_init_94 rfl ?_
  refine jq_bipush (pc := 95) hF dT_init_95 bi_6 ?_
  refine jq_newZ (pc := 97) hF (by decide) (Nat.le_of_ble_eq_true rfl) (Nat.le_of_ble_eq_true rfl) dT_init_97 (fun q97 => ?_)
  have hF := jF_c hF (c2 := 12) (s2 := 438) (Nat.le_of_ble_eq_true rfl) (Nat.le_of_ble_eq_true rfl)
  refine jq_putF (pc := 99) hF hni (C := rT) (T := tT) (N := 17) [(h, .inr (3, [.null, .int 0, .int 0, .int 0, .ref q8, .ref q16, .ref q25, .ref q33, .ref q41, .ref q49, .ref q57, .ref q65, .ref q73, .ref q81, .ref q89, .ref q97, .null])), (q8, .inl (cI, 144, .inl (fun _ => 0))), (q16, .inl (cZ, 24, .inl (fun _ => 0))), (q25, .inl (cI, 144, .inl (fun _ => 0))), (q33, .inl (cZ, 24, .inl (fun _ => 0))), (q41, .inl (cI, 6, .inl (fun _ => 0))), (q49, .inl (cI, 6, .inl (fun _ => 0))), (q57, .inl (cI, 6, .inl (fun _ => 0))), (q65, .inl (cI, 24, .inl (fun _ => 0))), (q73, .inl (cI, 24, .inl (fun _ => 0))), (q81, .inl (cI, 24, .inl (fun _ => 0))), (q89, .inl (cI, 6, .inl (fun _ => 0))), (q97, .inl (cZ, 6, .inl (fun _ => 0)))] inT tyT tkT nmT 0 rfl rfl 15 (by decide) mF_T_46 rfl rfl rfl rfl rfl (Nat.le_of_ble_eq_true rfl) rfl dT_init_99 ?_
  refine jq_aload_n (pc := 102) hF 0 dT_init_102 rfl ?_
  refine jq_bipush (pc := 103) hF dT_init_103 bi_6 ?_
  refine jq_newZ (pc := 105) hF (by decide) (Nat.le_of_ble_eq_true rfl) (Nat.le_of_ble_eq_true rfl) dT_init_105 (fun q105 => ?_)
  have hF := jF_c hF (c2 := 13) (s2 := 444) (Nat.le_of_ble_eq_true rfl) (Nat.le_of_ble_eq_true rfl)
  refine jq_putF (pc := 107) hF hni (C := rT) (T := tT) (N := 17) [(h, .inr (3, [.null, .int 0, .int 0, .int 0, .ref q8, .ref q16, .ref q25, .ref q33, .ref q41, .ref q49, .ref q57, .ref q65, .ref q73, .ref q81, .ref q89, .ref q97, .ref q105])), (q8, .inl (cI, 144, .inl (fun _ => 0))), (q16, .inl (cZ, 24, .inl (fun _ => 0))), (q25, .inl (cI, 144, .inl (fun _ => 0))), (q33, .inl (cZ, 24, .inl (fun _ => 0))), (q41, .inl (cI, 6, .inl (fun _ => 0))), (q49, .inl (cI, 6, .inl (fun _ => 0))), (q57, .inl (cI, 6, .inl (fun _ => 0))), (q65, .inl (cI, 24, .inl (fun _ => 0))), (q73, .inl (cI, 24, .inl (fun _ => 0))), (q81, .inl (cI, 24, .inl (fun _ => 0))), (q89, .inl (cI, 6, .inl (fun _ => 0))), (q97, .inl (cZ, 6, .inl (fun _ => 0))), (q105, .inl (cZ, 6, .inl (fun _ => 0)))] inT tyT tkT nmT 0 rfl rfl 16 (by decide) mF_T_49 rfl rfl rfl rfl rfl (Nat.le_of_ble_eq_true rfl) rfl dT_init_107 ?_
  refine jq_aload_n (pc := 110) hF 0 dT_init_110 rfl ?_
  refine jq_aload_n (pc := 111) hF 1 dT_init_111 rfl ?_
  refine jq_putF (pc := 112) hF hni (C := rT) (T := tT) (N := 17) [(h, .inr (3, [.ref b, .int 0, .int 0, .int 0, .ref q8, .ref q16, .ref q25, .ref q33, .ref q41, .ref q49, .ref q57, .ref q65, .ref q73, .ref q81, .ref q89, .ref q97, .ref q105])), (q8, .inl (cI, 144, .inl (fun _ => 0))), (q16, .inl (cZ, 24, .inl (fun _ => 0))), (q25, .inl (cI, 144, .inl (fun _ => 0))), (q33, .inl (cZ, 24, .inl (fun _ => 0))), (q41, .inl (cI, 6, .inl (fun _ => 0))), (q49, .inl (cI, 6, .inl (fun _ => 0))), (q57, .inl (cI, 6, .inl (fun _ => 0))), (q65, .inl (cI, 24, .inl (fun _ => 0))), (q73, .inl (cI, 24, .inl (fun _ => 0))), (q81, .inl (cI, 24, .inl (fun _ => 0))), (q89, .inl (cI, 6, .inl (fun _ => 0))), (q97, .inl (cZ, 6, .inl (fun _ => 0))), (q105, .inl (cZ, 6, .inl (fun _ => 0)))] inT tyT tkT nmT 0 rfl rfl 0 (by decide) mF_T_52 rfl rfl rfl rfl rfl (Nat.le_of_ble_eq_true rfl) rfl dT_init_112 ?_
  refine jq_aload_n (pc := 115) hF 0 dT_init_115 rfl ?_
  refine jq_iload_n (pc := 116) hF 2 dT_init_116 rfl ?_
  refine jq_putF (pc := 117) hF hni (C := rT) (T := tT) (N := 17) [(h, .inr (3, [.ref b, .int li, .int 0, .int 0, .ref q8, .ref q16, .ref q25, .ref q33, .ref q41, .ref q49, .ref q57, .ref q65, .ref q73, .ref q81, .ref q89, .ref q97, .ref q105])), (q8, .inl (cI, 144, .inl (fun _ => 0))), (q16, .inl (cZ, 24, .inl (fun _ => 0))), (q25, .inl (cI, 144, .inl (fun _ => 0))), (q33, .inl (cZ, 24, .inl (fun _ => 0))), (q41, .inl (cI, 6, .inl (fun _ => 0))), (q49, .inl (cI, 6, .inl (fun _ => 0))), (q57, .inl (cI, 6, .inl (fun _ => 0))), (q65, .inl (cI, 24, .inl (fun _ => 0))), (q73, .inl (cI, 24, .inl (fun _ => 0))), (q81, .inl (cI, 24, .inl (fun _ => 0))), (q89, .inl (cI, 6, .inl (fun _ => 0))), (q97, .inl (cZ, 6, .inl (fun _ => 0))), (q105, .inl (cZ, 6, .inl (fun _ => 0)))] inT tyT tkT nmT 0 rfl rfl 1 (by decide) mF_T_56 rfl rfl rfl rfl rfl (Nat.le_of_ble_eq_true rfl) rfl dT_init_117 ?_
  refine jq_aload_n (pc := 120) hF 0 dT_init_120 rfl ?_
  refine jq_iload_n (pc := 121) hF 3 dT_init_121 rfl ?_
  refine jq_putF (pc := 122) hF hni (C := rT) (T := tT) (N := 17) [(h, .inr (3, [.ref b, .int li, .int de, .int 0, .ref q8, .ref q16, .ref q25, .ref q33, .ref q41, .ref q49, .ref q57, .ref q65, .ref q73, .ref q81, .ref q89, .ref q97, .ref q105])), (q8, .inl (cI, 144, .inl (fun _ => 0))), (q16, .inl (cZ, 24, .inl (fun _ => 0))), (q25, .inl (cI, 144, .inl (fun _ => 0))), (q33, .inl (cZ, 24, .inl (fun _ => 0))), (q41, .inl (cI, 6, .inl (fun _ => 0))), (q49, .inl (cI, 6, .inl (fun _ => 0))), (q57, .inl (cI, 6, .inl (fun _ => 0))), (q65, .inl (cI, 24, .inl (fun _ => 0))), (q73, .inl (cI, 24, .inl (fun _ => 0))), (q81, .inl (cI, 24, .inl (fun _ => 0))), (q89, .inl (cI, 6, .inl (fun _ => 0))), (q97, .inl (cZ, 6, .inl (fun _ => 0))), (q105, .inl (cZ, 6, .inl (fun _ => 0)))] inT tyT tkT nmT 0 rfl rfl 2 (by decide) mF_T_60 rfl rfl rfl rfl rfl (Nat.le_of_ble_eq_true rfl) rfl dT_init_122 ?_
  refine jq_aload_n (pc := 125) hF 0 dT_init_125 rfl ?_
  refine jq_get (pc := 126) hF (C := rT) (T := tT) (N := 17) (fun w h => List.mem_cons_of_mem _ (inT w h)) 0 rfl rfl 10 (by decide) (List.mem_cons_of_mem _ mF_T_31) rfl dT_init_126 ?_
  refine jq_iconst (pc := 129) hF dT_init_129 ic_m1 ?_
  refine jq_cF (pc := 130) hF (As := [.ref q57, .int (-1)]) (rest := []) (wr := [(h, .inr (3, [.ref b, .int li, .int de, .int 0, .ref q8, .ref q16, .ref q25, .ref q33, .ref q41, .ref q49, .ref q57, .ref q65, .ref q73, .ref q81, .ref q89, .ref q97, .ref q105])), (q8, .inl (cI, 144, .inl (fun _ => 0))), (q16, .inl (cZ, 24, .inl (fun _ => 0))), (q25, .inl (cI, 144, .inl (fun _ => 0))), (q33, .inl (cZ, 24, .inl (fun _ => 0))), (q41, .inl (cI, 6, .inl (fun _ => 0))), (q49, .inl (cI, 6, .inl (fun _ => 0))), (q65, .inl (cI, 24, .inl (fun _ => 0))), (q73, .inl (cI, 24, .inl (fun _ => 0))), (q81, .inl (cI, 24, .inl (fun _ => 0))), (q89, .inl (cI, 6, .inl (fun _ => 0))), (q97, .inl (cZ, 6, .inl (fun _ => 0))), (q105, .inl (cZ, 6, .inl (fun _ => 0)))]) [7] [0, 1, 2, 3, 4, 5, 6, 8, 9, 10, 11, 12, 13] rfl rfl rfl rfl rfl (by decide) (mA_fill l D cI cZ q57 6 (fun _ => 0) ((-1)) (by decide)) (jG_x mL_T_63 mT_A_fill mZ_A mC_A_fill) rfl rfl rfl dd_A_fill.2 ⟨(Nat.le_of_ble_eq_true rfl), (Nat.le_of_ble_eq_true rfl)⟩ rfl rfl (Nat.le_of_ble_eq_true rfl) dT_init_130 ?_
  refine jq_wsub [(h, .inr (3, [.ref b, .int li, .int de, .int 0, .ref q8, .ref q16, .ref q25, .ref q33, .ref q41, .ref q49, .ref q57, .ref q65, .ref q73, .ref q81, .ref q89, .ref q97, .ref q105])), (q8, .inl (cI, 144, .inl (fun _ => 0))), (q16, .inl (cZ, 24, .inl (fun _ => 0))), (q25, .inl (cI, 144, .inl (fun _ => 0))), (q33, .inl (cZ, 24, .inl (fun _ => 0))), (q41, .inl (cI, 6, .inl (fun _ => 0))), (q49, .inl (cI, 6, .inl (fun _ => 0))), (q57, .inl (cI, 6, .inl (fillF (fun _ => 0) ((-1)) 6))), (q65, .inl (cI, 24, .inl (fun _ => 0))), (q73, .inl (cI, 24, .inl (fun _ => 0))), (q81, .inl (cI, 24, .inl (fun _ => 0))), (q89, .inl (cI, 6, .inl (fun _ => 0))), (q97, .inl (cZ, 6, .inl (fun _ => 0))), (q105, .inl (cZ, 6, .inl (fun _ => 0)))] [0, 1, 2, 3, 4, 5, 6, 13, 7, 8, 9, 10, 11, 12] rfl rfl rfl ?_
  exact jq_at (hk (fun i => [q8, q16, q25, q33, q41, q49, q57, q65, q73, q81, q89, q97, q105].getD i 0) 133 _ dT_init_133) rfl rfl rfl rfl
def rmK_K : Room := { frames := 1, cells := 2, slots := 122, locals := 40 }
set_option maxHeartbeats 8000000 in
set_option maxRecDepth 100000 in
theorem mK_init (l : Launch) (D : va_G) (cI cZ : ClassId) (h : Nat) (b1 : Nat) (b2 : Nat) (b3 : Nat) (b4 : Nat) : jK l yK_init w_K_init rmK_K D (jTys cI cZ) [.ref h, .ref b1, .ref b2, .ref b3, .ref b4] [(h, .inr (5, [.null, .null, .null, .null, .null, .null, .int 0, .int 0, .int 0, .int 0, .int 0, .int 0]))] (fun u => [(h, .inr (5, [.ref b1, .ref b2, .ref b3, .ref b4, .ref (u 0), .ref (u 1), .int 0, .int 0, .int 0, .int 0, .int 0, .int 0])), ((u 0), .inl (cI, 61, .inl (fun _ => 0))), ((u 1), .inl (cI, 61, .inl (fun _ => 0)))]) := by
  refine jK_of (ws' := jG) (by decide) rfl rfl (Nat.le_of_ble_eq_true rfl) ?_
  intro X hF hni hk
  show jJ l D rmK_K 5 (jXc X 0 0) [(h, .inr (5, [.null, .null, .null, .null, .null, .null, .int 0, .int 0, .int 0, .int 0, .int 0, .int 0]))] 0 [(0, .ref h), (1, .ref b1), (2, .ref b2), (3, .ref b3), (4, .ref b4)] []
  refine jq_aload_n (pc := 0) hF 0 dK_init_0 rfl ?_
  refine jq_objI (pc := 1) hF mO_K (Nat.le_of_ble_eq_true rfl) (Nat.le_of_ble_eq_true rfl) dK_init_1 ?_
  refine jq_aload_n (pc := 4) hF 0 dK_init_4 rfl ?_
  refine jq_bipush (pc := 5) hF dK_init_5 bi_61 ?_
  refine jq_newI (pc := 7) hF (by decide) (Nat.le_of_ble_eq_true rfl) (Nat.le_of_ble_eq_true rfl) dK_init_7 (fun q7 => ?_)
  have hF := jF_c hF (c2 := 1) (s2 := 61) (Nat.le_of_ble_eq_true rfl) (Nat.le_of_ble_eq_true rfl)
  refine jq_putF (pc := 9) hF hni (C := rK) (T := tK) (N := 12) [(h, .inr (5, [.null, .null, .null, .null, .ref q7, .null, .int 0, .int 0, .int 0, .int 0, .int 0, .int 0])), (q7, .inl (cI, 61, .inl (fun _ => 0)))] inK tyK tkK nmK 0 rfl rfl 4 (by decide) mF_K_9 rfl rfl rfl rfl rfl (Nat.le_of_ble_eq_true rfl) rfl dK_init_9 ?_
  refine jq_aload_n (pc := 12) hF 0 dK_init_12 rfl ?_
  refine jq_bipush (pc := 13) hF dK_init_13 bi_61 ?_
  refine jq_newI (pc := 15) hF (by decide) (Nat.le_of_ble_eq_true rfl) (Nat.le_of_ble_eq_true rfl) dK_init_15 (fun q15 => ?_)
  have hF := jF_c hF (c2 := 2) (s2 := 122) (Nat.le_of_ble_eq_true rfl) (Nat.le_of_ble_eq_true rfl)
  refine jq_putF (pc := 17) hF hni (C := rK) (T := tK) (N := 12) [(h, .inr (5, [.null, .null, .null, .null, .ref q7, .ref q15, .int 0, .int 0, .int 0, .int 0, .int 0, .int 0])), (q7, .inl (cI, 61, .inl (fun _ => 0))), (q15, .inl (cI, 61, .inl (fun _ => 0)))] inK tyK tkK nmK 0 rfl rfl 5 (by decide) mF_K_15 rfl rfl rfl rfl rfl (Nat.le_of_ble_eq_true rfl) rfl dK_init_17 ?_
  refine jq_aload_n (pc := 20) hF 0 dK_init_20 rfl ?_
  refine jq_aload_n (pc := 21) hF 1 dK_init_21 rfl ?_
  refine jq_putF (pc := 22) hF hni (C := rK) (T := tK) (N := 12) [(h, .inr (5, [.ref b1, .null, .null, .null, .ref q7, .ref q15, .int 0, .int 0, .int 0, .int 0, .int 0, .int 0])), (q7, .inl (cI, 61, .inl (fun _ => 0))), (q15, .inl (cI, 61, .inl (fun _ => 0)))] inK tyK tkK nmK 0 rfl rfl 0 (by decide) mF_K_18 rfl rfl rfl rfl rfl (Nat.le_of_ble_eq_true rfl) rfl dK_init_22 ?_
  refine jq_aload_n (pc := 25) hF 0 dK_init_25 rfl ?_
  refine jq_aload_n (pc := 26) hF 2 dK_init_26 rfl ?_
  refine jq_putF (pc := 27) hF hni (C := rK) (T := tK) (N := 12) [(h, .inr (5, [.ref b1, .ref b2, .null, .null, .ref q7, .ref q15, .int 0, .int 0, .int 0, .int 0, .int 0, .int 0])), (q7, .inl (cI, 61, .inl (fun _ => 0))), (q15, .inl (cI, 61, .inl (fun _ => 0)))] inK tyK tkK nmK 0 rfl rfl 1 (by decide) mF_K_22 rfl rfl rfl rfl rfl (Nat.le_of_ble_eq_true rfl) rfl dK_init_27 ?_
  refine jq_aload_n (pc := 30) hF 0 dK_init_30 rfl ?_
  refine jq_aload_n (pc := 31) hF 3 dK_init_31 rfl ?_
  refine jq_putF (pc := 32) hF hni (C := rK) (T := tK) (N := 12) [(h, .inr (5, [.ref b1, .ref b2, .ref b3, .null, .ref q7, .ref q15, .int 0, .int 0, .int 0, .int 0, .int 0, .int 0])), (q7, .inl (cI, 61, .inl (fun _ => 0))), (q15, .inl (cI, 61, .inl (fun _ => 0)))] inK tyK tkK nmK 0 rfl rfl 2 (by decide) mF_K_26 rfl rfl rfl rfl rfl (Nat.le_of_ble_eq_true rfl) rfl dK_init_32 ?_
  refine jq_aload_n (pc := 35) hF 0 dK_init_35 rfl ?_
  refine jq_aload (pc := 36) hF 4 dK_init_36 rfl ?_
  refine jq_putF (pc := 38) hF hni (C := rK) (T := tK) (N := 12) [(h, .inr (5, [.ref b1, .ref b2, .ref b3, .ref b4, .ref q7, .ref q15, .int 0, .int 0, .int 0, .int 0, .int 0, .int 0])), (q7, .inl (cI, 61, .inl (fun _ => 0))), (q15, .inl (cI, 61, .inl (fun _ => 0)))] inK tyK tkK nmK 0 rfl rfl 3 (by decide) mF_K_30 rfl rfl rfl rfl rfl (Nat.le_of_ble_eq_true rfl) rfl dK_init_38 ?_
  exact jq_at (hk (fun i => [q7, q15].getD i 0) 41 _ dK_init_41) rfl rfl rfl rfl
