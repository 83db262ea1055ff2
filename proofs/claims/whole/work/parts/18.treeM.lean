/-! the reference: walks by program (wip/whole/gen/specM1.py) -/
def mTickB (n : Int32) : Bool := !decide (n < 0) && decide (n ≤ nI 60)
theorem mIsPlace_at {τ : jS} (hI : mInv τ) {p : Int32} (h : mIsPlace τ p = true) : ∃ k, p = nI k ∧ k < 4 * mNb τ := by
  have hn := hI.nbl
  simp only [mIsPlace, Bool.and_eq_true, Bool.not_eq_true', decide_eq_false_iff_not] at h
  obtain ⟨k, hk, rfl⟩ := nI_of h.1
  refine ⟨k, rfl, ?_⟩
  have h2 := h.2
  rw [hn.2, pk_mul] at h2
  exact Nat.lt_of_not_le (fun e => h2 (nI_le e hk))
theorem mIsPlace_in {τ : jS} (hI : mInv τ) {p : Int32} (h : mIsPlace τ p = true) : vp_in p 24 := by
  obtain ⟨k, rfl, hk⟩ := mIsPlace_at hI h
  have := hI.nbl.1
  exact vp_in_nI (by omega) (by decide)
section MX
variable {l : Launch} {D : va_G} {R : Room} {nL : Nat} {X : jX} {cc : ByteArray} {own : String} {cw : Cond} {cI cZ : ClassId} {ret : Option FieldType} {a : Nat → Nat} {τ : jS} {pc : Nat} {L : List (Nat × Value)} {st : List Value}
theorem Mz_3 (hF : jF D R nL X cc own (cw :: jG) (jTys cI cZ) ret) {i : Nat} {x : Int32} (hi : i < 6) (hd : decode cc pc = .ok (.bastore, 1)) (k : jJ l D R nL X (wM a cI cZ (sU τ 3 i (vp_nar .boolean x))) (pc + 1) L st) : jJ l D R nL X (wM a cI cZ τ) pc L (.int x :: .int (nI i) :: .ref (a 3) :: st) :=
  jq_zastN hF 3 1 _ rfl rfl (by decide) hi rfl hd k
end MX
set_option maxHeartbeats 4000000 in
set_option maxRecDepth 100000 in
theorem mM_isPlace (l : Launch) (D : va_G) (a : Nat → Nat) (cI cZ : ClassId) (τ : jS) (p : Int32)  : jI l yM_isPlace w_M_isPlace (rmD 0) D (jTys cI cZ) [.ref (a 0), .int (p)] (wM a cI cZ τ) (wM a cI cZ (τ)) (bI (mIsPlace τ p)) := by
  refine jI_of (ws' := jG) (bI_nw _) (by decide) rfl (Nat.le_of_ble_eq_true rfl) ?_
  intro X hF hk
  show jJ l D (rmD 0) 2 X (wM a cI cZ τ) 0 [(0, .ref (a 0)), (1, .int (p))] []
  refine jq_iload_n (pc := 0) hF 1 dM_isPlace_0 rfl ?_
  refine jq_if_lt (pc := 1) hF 18 dM_isPlace_1 rfl (fun h1 => ?_) (fun h1 => ?_)
  · refine jq_iconst (pc := 18) hF dM_isPlace_18 ic_0 ?_
    exact jq_at (hk 19 _ dM_isPlace_19) rfl rfl rfl (congrArg (fun z => [Value.int z]) (bI0 (by simp [mIsPlace, h1])))
  · refine jq_iload_n (pc := 4) hF 1 dM_isPlace_4 rfl ?_
    refine jq_iconst (pc := 5) hF dM_isPlace_5 ic_4 ?_
    refine jq_aload_n (pc := 6) hF 0 dM_isPlace_6 rfl ?_
    refine Mg_M_115 (pc := 7) hF dM_isPlace_7 ?_
    refine jq_imul (pc := 10) hF dM_isPlace_10 ?_
    refine jq_icmp_ge (pc := 11) hF 18 dM_isPlace_11 rfl (fun h11 => ?_) (fun h11 => ?_)
    · refine jq_iconst (pc := 18) hF dM_isPlace_18 ic_0 ?_
      exact jq_at (hk 19 _ dM_isPlace_19) rfl rfl rfl (congrArg (fun z => [Value.int z]) (bI0 (by simp [mIsPlace, h1, h11])))
    · refine jq_iconst (pc := 14) hF dM_isPlace_14 ic_1 ?_
      refine jq_goto (pc := 15) hF 19 dM_isPlace_15 rfl ?_
      exact jq_at (hk 19 _ dM_isPlace_19) rfl rfl rfl (congrArg (fun z => [Value.int z]) (bI1 (by simp [mIsPlace, h1, h11])))
set_option maxHeartbeats 4000000 in
set_option maxRecDepth 100000 in
theorem mM_isFree (l : Launch) (D : va_G) (a : Nat → Nat) (cI cZ : ClassId) (τ : jS) (p : Int32) (hI : mInv τ) : jI l yM_isFree w_M_isFree (rmD 1) D (jTys cI cZ) [.ref (a 0), .int (p)] (wM a cI cZ τ) (wM a cI cZ (τ)) (bI (mIsFree τ p)) := by
  refine jI_of (ws' := jG) (bI_nw _) (by decide) rfl (Nat.le_of_ble_eq_true rfl) ?_
  intro X hF hk
  show jJ l D (rmD 1) 2 X (wM a cI cZ τ) 0 [(0, .ref (a 0)), (1, .int (p))] []
  refine jq_aload_n (pc := 0) hF 0 dM_isFree_0 rfl ?_
  refine jq_iload_n (pc := 1) hF 1 dM_isFree_1 rfl ?_
  refine jq_cVI (pc := 2) hF (As := [.int (p)]) (rest := []) (mM_isPlace l D a cI cZ τ (p) ) (jG_v mL_M_118 mI_M_isPlace mS_M_isPlace mZ_M mC_M_isPlace) rfl rfl rfl dd_M_isPlace ⟨Nat.le_of_ble_eq_true rfl, Nat.le_of_ble_eq_true rfl⟩ 0 rfl rfl rfl rfl (Nat.le_of_ble_eq_true rfl) dM_isFree_2 ?_
  refine jq_if_eqB (pc := 5) hF 21 dM_isFree_5 rfl (fun h5 => ?_) (fun h5 => ?_)
  · refine jq_iconst (pc := 21) hF dM_isFree_21 ic_0 ?_
    exact jq_at (hk 22 _ dM_isFree_22) rfl rfl rfl (congrArg (fun z => [Value.int z]) (bI0 (by simp [mIsFree, h5])))
  · refine jq_aload_n (pc := 8) hF 0 dM_isFree_8 rfl ?_
    refine Mg_M_23 (pc := 9) hF dM_isFree_9 ?_
    refine jq_iload_n (pc := 12) hF 1 dM_isFree_12 rfl ?_
    refine ML_5 (pc := 13) hF (mIsPlace_in hI h5) dM_isFree_13 ?_
    refine jq_if_ne (pc := 14) hF 21 dM_isFree_14 rfl (fun h14 => ?_) (fun h14 => ?_)
    · refine jq_iconst (pc := 21) hF dM_isFree_21 ic_0 ?_
      exact jq_at (hk 22 _ dM_isFree_22) rfl rfl rfl (congrArg (fun z => [Value.int z]) (bI0 (by simp [mIsFree, h5, h14])))
    · refine jq_iconst (pc := 17) hF dM_isFree_17 ic_1 ?_
      refine jq_goto (pc := 18) hF 22 dM_isFree_18 rfl ?_
      exact jq_at (hk 22 _ dM_isFree_22) rfl rfl rfl (congrArg (fun z => [Value.int z]) (bI1 (by simp [mIsFree, h5, h14])))
set_option maxHeartbeats 4000000 in
set_option maxRecDepth 100000 in
theorem mM_isHost (l : Launch) (D : va_G) (a : Nat → Nat) (cI cZ : ClassId) (τ : jS) (h : Int32)  : jI l yM_isHost w_M_isHost (rmD 0) D (jTys cI cZ) [.ref (a 0), .int (h)] (wM a cI cZ τ) (wM a cI cZ (τ)) (bI (mIsHost τ h)) := by
  refine jI_of (ws' := jG) (bI_nw _) (by decide) rfl (Nat.le_of_ble_eq_true rfl) ?_
  intro X hF hk
  show jJ l D (rmD 0) 2 X (wM a cI cZ τ) 0 [(0, .ref (a 0)), (1, .int (h))] []
  refine jq_iload_n (pc := 0) hF 1 dM_isHost_0 rfl ?_
  refine jq_if_lt (pc := 1) hF 16 dM_isHost_1 rfl (fun h1 => ?_) (fun h1 => ?_)
  · refine jq_iconst (pc := 16) hF dM_isHost_16 ic_0 ?_
    exact jq_at (hk 17 _ dM_isHost_17) rfl rfl rfl (congrArg (fun z => [Value.int z]) (bI0 (by simp [mIsHost, h1])))
  · refine jq_iload_n (pc := 4) hF 1 dM_isHost_4 rfl ?_
    refine jq_aload_n (pc := 5) hF 0 dM_isHost_5 rfl ?_
    refine Mg_M_136 (pc := 6) hF dM_isHost_6 ?_
    refine jq_icmp_ge (pc := 9) hF 16 dM_isHost_9 rfl (fun h9 => ?_) (fun h9 => ?_)
    · refine jq_iconst (pc := 16) hF dM_isHost_16 ic_0 ?_
      exact jq_at (hk 17 _ dM_isHost_17) rfl rfl rfl (congrArg (fun z => [Value.int z]) (bI0 (by simp [mIsHost, h1, h9])))
    · refine jq_iconst (pc := 12) hF dM_isHost_12 ic_1 ?_
      refine jq_goto (pc := 13) hF 17 dM_isHost_13 rfl ?_
      exact jq_at (hk 17 _ dM_isHost_17) rfl rfl rfl (congrArg (fun z => [Value.int z]) (bI1 (by simp [mIsHost, h1, h9])))
set_option maxHeartbeats 4000000 in
set_option maxRecDepth 100000 in
theorem mM_put (l : Launch) (D : va_G) (a : Nat → Nat) (cI cZ : ClassId) (τ : jS) (p : Int32) (what : Int32) (num : Int32) (hp : vp_in p 24) : jV l yM_put w_M_put (rmD 0) D (jTys cI cZ) [.ref (a 0), .int (p), .int (what), .int (num)] (wM a cI cZ τ) (wM a cI cZ (mPut τ p what num)) := by
  refine jV_of (ws' := jG) (by decide) rfl (Nat.le_of_ble_eq_true rfl) ?_
  intro X hF hk
  show jJ l D (rmD 0) 4 X (wM a cI cZ τ) 0 [(0, .ref (a 0)), (1, .int (p)), (2, .int (what)), (3, .int (num))] []
  refine jq_aload_n (pc := 0) hF 0 dM_put_0 rfl ?_
  refine Mg_M_23 (pc := 1) hF dM_put_1 ?_
  refine jq_iload_n (pc := 4) hF 1 dM_put_4 rfl ?_
  refine jq_iload_n (pc := 5) hF 2 dM_put_5 rfl ?_
  refine MS_5 (pc := 6) hF (by assumption) dM_put_6 ?_
  refine jq_aload_n (pc := 7) hF 0 dM_put_7 rfl ?_
  refine Mg_M_26 (pc := 8) hF dM_put_8 ?_
  refine jq_iload_n (pc := 11) hF 1 dM_put_11 rfl ?_
  refine jq_iload_n (pc := 12) hF 3 dM_put_12 rfl ?_
  refine MS_6 (pc := 13) hF (by assumption) dM_put_13 ?_
  exact jq_at (hk 14 _ dM_put_14) (congrArg (wM a cI cZ) (by rfl)) rfl rfl rfl
set_option maxHeartbeats 4000000 in
set_option maxRecDepth 100000 in
theorem mM_id (l : Launch) (D : va_G) (a : Nat → Nat) (cI cZ : ClassId) (τ : jS) (b : Nat) (hb : b < 6) : jI l yM_id w_M_id (rmD 0) D (jTys cI cZ) [.ref (a 0), .int (nI b)] (wM a cI cZ τ) (wM a cI cZ (τ)) (mId τ b) := by
  refine jI_of (ws' := jG) rfl (by decide) rfl (Nat.le_of_ble_eq_true rfl) ?_
  intro X hF hk
  show jJ l D (rmD 0) 2 X (wM a cI cZ τ) 0 [(0, .ref (a 0)), (1, .int (nI b))] []
  refine jq_bipush (pc := 0) hF dM_id_0 bi_8 ?_
  refine jq_aload_n (pc := 2) hF 0 dM_id_2 rfl ?_
  refine Mg_M_7 (pc := 3) hF dM_id_3 ?_
  refine jq_iload_n (pc := 6) hF 1 dM_id_6 rfl ?_
  refine Ml_1 (pc := 7) hF (by omega) dM_id_7 ?_
  refine jq_imul (pc := 8) hF dM_id_8 ?_
  refine jq_iload_n (pc := 9) hF 1 dM_id_9 rfl ?_
  refine jq_iadd (pc := 10) hF dM_id_10 ?_
  exact jq_at (hk 11 _ dM_id_11) rfl rfl rfl (congrArg (fun z => [Value.int z]) (by rfl))
set_option maxHeartbeats 4000000 in
set_option maxRecDepth 100000 in
theorem mM_isUp (l : Launch) (D : va_G) (a : Nat → Nat) (cI cZ : ClassId) (τ : jS) (p : Nat) (hp : p < 24) (hI : mInv τ) : jI l yM_isUp w_M_isUp (rmD 0) D (jTys cI cZ) [.ref (a 0), .int (nI p)] (wM a cI cZ τ) (wM a cI cZ (τ)) (bI (mIsUp τ p)) := by
  refine jI_of (ws' := jG) (bI_nw _) (by decide) rfl (Nat.le_of_ble_eq_true rfl) ?_
  intro X hF hk
  show jJ l D (rmD 0) 2 X (wM a cI cZ τ) 0 [(0, .ref (a 0)), (1, .int (nI p))] []
  refine jq_aload_n (pc := 0) hF 0 dM_isUp_0 rfl ?_
  refine Mg_M_23 (pc := 1) hF dM_isUp_1 ?_
  refine jq_iload_n (pc := 4) hF 1 dM_isUp_4 rfl ?_
  refine Ml_5 (pc := 5) hF (by omega) dM_isUp_5 ?_
  refine jq_iconst (pc := 6) hF dM_isUp_6 ic_1 ?_
  refine jq_icmp_gt (pc := 7) hF 34 dM_isUp_7 rfl (fun h7 => ?_) (fun h7 => ?_)
  · refine jq_iconst (pc := 34) hF dM_isUp_34 ic_1 ?_
    refine jq_goto (pc := 35) hF 39 dM_isUp_35 rfl ?_
    exact jq_at (hk 39 _ dM_isUp_39) rfl rfl rfl (congrArg (fun z => [Value.int z]) (bI1 (by simp [mIsUp, h7])))
  · refine jq_aload_n (pc := 10) hF 0 dM_isUp_10 rfl ?_
    refine Mg_M_23 (pc := 11) hF dM_isUp_11 ?_
    refine jq_iload_n (pc := 14) hF 1 dM_isUp_14 rfl ?_
    refine Ml_5 (pc := 15) hF (by omega) dM_isUp_15 ?_
    refine jq_iconst (pc := 16) hF dM_isUp_16 ic_1 ?_
    refine jq_icmp_ne (pc := 17) hF 38 dM_isUp_17 rfl (fun h17 => ?_) (fun h17 => ?_)
    · refine jq_iconst (pc := 38) hF dM_isUp_38 ic_0 ?_
      exact jq_at (hk 39 _ dM_isUp_39) rfl rfl rfl (congrArg (fun z => [Value.int z]) (bI0 (by simp [mIsUp, h7, h17])))
    · refine jq_aload_n (pc := 20) hF 0 dM_isUp_20 rfl ?_
      refine Mg_M_47 (pc := 21) hF dM_isUp_21 ?_
      refine jq_aload_n (pc := 24) hF 0 dM_isUp_24 rfl ?_
      refine Mg_M_26 (pc := 25) hF dM_isUp_25 ?_
      refine jq_iload_n (pc := 28) hF 1 dM_isUp_28 rfl ?_
      refine Ml_6 (pc := 29) hF (by omega) dM_isUp_29 ?_
      refine ML_13 (pc := 30) hF ((hI.wi hp).inn (by decide)) dM_isUp_30 ?_
      refine jq_if_ne (pc := 31) hF 38 dM_isUp_31 rfl (fun h31 => ?_) (fun h31 => ?_)
      · refine jq_iconst (pc := 38) hF dM_isUp_38 ic_0 ?_
        exact jq_at (hk 39 _ dM_isUp_39) rfl rfl rfl (congrArg (fun z => [Value.int z]) (bI0 (by simp [mIsUp, h7, h17, h31])))
      · refine jq_iconst (pc := 34) hF dM_isUp_34 ic_1 ?_
        refine jq_goto (pc := 35) hF 39 dM_isUp_35 rfl ?_
        exact jq_at (hk 39 _ dM_isUp_39) rfl rfl rfl (congrArg (fun z => [Value.int z]) (bI1 (by simp [mIsUp, h7, h17, h31])))
set_option maxHeartbeats 4000000 in
set_option maxRecDepth 100000 in
theorem mM_key (l : Launch) (D : va_G) (a : Nat → Nat) (cI cZ : ClassId) (τ : jS) (a0 : Int32) (b : Int32) (c : Int32) (d : Int32)  : jL l yM_key w_M_key (rmD 0) D (jTys cI cZ) [.int (a0), .int (b), .int (c), .int (d)] (wM a cI cZ τ) (wM a cI cZ (τ)) (mKey a0 b c d) := by
  refine jL_of (ws' := jG) (by decide) rfl (Nat.le_of_ble_eq_true rfl) ?_
  intro X hF hk
  show jJ l D (rmD 0) 4 X (wM a cI cZ τ) 0 [(0, .int (a0)), (1, .int (b)), (2, .int (c)), (3, .int (d))] []
  refine jq_iload_n (pc := 0) hF 0 dM_key_0 rfl ?_
  refine jq_i2l (pc := 1) hF dM_key_1 ?_
  refine jq_ldc2 (pc := 2) hF (List.mem_cons_of_mem _ mK_M_139) dM_key_2 ?_
  refine jq_lmul (pc := 5) hF dM_key_5 ?_
  refine jq_iload_n (pc := 6) hF 1 dM_key_6 rfl ?_
  refine jq_i2l (pc := 7) hF dM_key_7 ?_
  refine jq_ladd (pc := 8) hF dM_key_8 ?_
  refine jq_ldc2 (pc := 9) hF (List.mem_cons_of_mem _ mK_M_141) dM_key_9 ?_
  refine jq_lmul (pc := 12) hF dM_key_12 ?_
  refine jq_iload_n (pc := 13) hF 2 dM_key_13 rfl ?_
  refine jq_i2l (pc := 14) hF dM_key_14 ?_
  refine jq_ladd (pc := 15) hF dM_key_15 ?_
  refine jq_ldc2 (pc := 16) hF (List.mem_cons_of_mem _ mK_M_141) dM_key_16 ?_
  refine jq_lmul (pc := 19) hF dM_key_19 ?_
  refine jq_iload_n (pc := 20) hF 3 dM_key_20 rfl ?_
  refine jq_i2l (pc := 21) hF dM_key_21 ?_
  refine jq_ladd (pc := 22) hF dM_key_22 ?_
  exact jq_at (hk 23 _ dM_key_23) rfl rfl rfl (congrArg (fun z => [Value.long z]) (by rfl))
set_option maxHeartbeats 4000000 in
set_option maxRecDepth 100000 in
theorem mM_rootPort (l : Launch) (D : va_G) (a : Nat → Nat) (cI cZ : ClassId) (τ : jS) (b : Nat) (hb : b < 6) (hI : mInv τ) : jI l yM_rootPort w_M_rootPort (rmD 1) D (jTys cI cZ) [.ref (a 0), .int (nI b)] (wM a cI cZ τ) (wM a cI cZ (τ)) (mPort τ b) := by
  refine jI_of (ws' := jG) rfl (by decide) rfl (Nat.le_of_ble_eq_true rfl) ?_
  intro X hF hk
  show jJ l D (rmD 1) 9 X (wM a cI cZ τ) 0 [(0, .ref (a 0)), (1, .int (nI b))] []
  refine jq_iconst (pc := 0) hF dM_rootPort_0 ic_m1 ?_
  refine jq_istore_n (pc := 1) hF [(2, .int (-1)), (0, .ref (a 0)), (1, .int (nI b))] dM_rootPort_1 (Nat.le_of_ble_eq_true rfl) rfl ?_
  refine jq_lconst (pc := 2) hF (v := 0) dM_rootPort_2 rfl ?_
  refine jq_lstore_n (pc := 3) hF [(3, .long (0)), (2, .int (-1)), (0, .ref (a 0)), (1, .int (nI b))] dM_rootPort_3 (Nat.le_of_ble_eq_true rfl) rfl ?_
  refine jq_iconst (pc := 4) hF dM_rootPort_4 ic_0 ?_
  refine jq_istore (pc := 5) hF [(5, .int (nI 0)), (3, .long (0)), (2, .int (-1)), (0, .ref (a 0)), (1, .int (nI b))] dM_rootPort_5 (Nat.le_of_ble_eq_true rfl) rfl ?_
  have lp7 : ∀ i, i ≤ 4 → jJ l D (rmD 1) 9 X (wM a cI cZ (τ)) 7 [(5, .int (nI i)), (3, .long ((mPortN τ b i).2)), (2, .int ((mPortN τ b i).1)), (0, .ref (a 0)), (1, .int (nI b))] [] := by
    refine loop_up (fun i hi ih7 => ?_)
    refine jq_iload (pc := 7) hF 0 dM_rootPort_7 rfl ?_
    refine jq_iconst (pc := 9) hF dM_rootPort_9 ic_4 ?_
    refine jq_icmp_geN (pc := 10) hF 118 (by omega) (by omega) dM_rootPort_10 rfl (fun h10 => ?_) (fun h10 => ?_)
    · obtain rfl : i = 4 := by omega
      refine jq_iload_n (pc := 118) hF 2 dM_rootPort_118 rfl ?_
      exact jq_at (hk 119 _ dM_rootPort_119) rfl rfl rfl (congrArg (fun z => [Value.int z]) (by rfl))
    · refine jq_iconst (pc := 13) hF dM_rootPort_13 ic_4 ?_
      refine jq_iload_n (pc := 14) hF 4 dM_rootPort_14 rfl ?_
      refine jq_imulN (pc := 15) hF dM_rootPort_15 ?_
      refine jq_iload (pc := 16) hF 0 dM_rootPort_16 rfl ?_
      refine jq_iaddN (pc := 18) hF dM_rootPort_18 ?_
      refine jq_istore (pc := 19) hF [(6, .int (nI (4 * b + i))), (5, .int (nI i)), (3, .long ((mPortN τ b i).2)), (2, .int ((mPortN τ b i).1)), (0, .ref (a 0)), (1, .int (nI b))] dM_rootPort_19 (Nat.le_of_ble_eq_true rfl) rfl ?_
      refine jq_aload_n (pc := 21) hF 4 dM_rootPort_21 rfl ?_
      refine Mg_M_60 (pc := 22) hF dM_rootPort_22 ?_
      refine jq_iload (pc := 25) hF 0 dM_rootPort_25 rfl ?_
      refine Ml_16 (pc := 27) hF (by omega) dM_rootPort_27 ?_
      refine jq_if_eq (pc := 28) hF 112 dM_rootPort_28 rfl (fun h28 => ?_) (fun h28 => ?_)
      · refine jq_iincN (pc := 112) hF 1 [(5, .int (nI (i + 1))), (6, .int (nI (4 * b + i))), (3, .long ((mPortN τ b i).2)), (2, .int ((mPortN τ b i).1)), (0, .ref (a 0)), (1, .int (nI b))] dM_rootPort_112 rfl (Nat.le_of_ble_eq_true rfl) rfl ?_
        refine jq_goto (pc := 115) hF 7 dM_rootPort_115 rfl ?_
        refine jq_sub [(5, .int (nI (i + 1))), (3, .long ((mPortN τ b i).2)), (2, .int ((mPortN τ b i).1)), (0, .ref (a 0)), (1, .int (nI b))] [0, 2, 3, 4, 5] rfl ?_
        exact jq_at (ih7 (by omega)) rfl rfl (by simp [mPortN, mOffer, h10, h28, Nat.add_assoc]) rfl
      · refine jq_aload_n (pc := 31) hF 4 dM_rootPort_31 rfl ?_
        refine Mg_M_63 (pc := 32) hF dM_rootPort_32 ?_
        refine jq_iload (pc := 35) hF 0 dM_rootPort_35 rfl ?_
        refine Ml_17 (pc := 37) hF (by omega) dM_rootPort_37 ?_
        refine jq_aload_n (pc := 38) hF 4 dM_rootPort_38 rfl ?_
        refine jq_iload_n (pc := 39) hF 5 dM_rootPort_39 rfl ?_
        refine jq_cVI (pc := 40) hF (As := [.int (nI b)]) (rest := [.int ((τ) 17 (4 * b + i))]) (mM_id l D a cI cZ (τ) (b) hb) (jG_v mL_M_143 mI_M_id mS_M_id mZ_M mC_M_id) rfl rfl rfl dd_M_id ⟨Nat.le_of_ble_eq_true rfl, Nat.le_of_ble_eq_true rfl⟩ 0 rfl rfl rfl rfl (Nat.le_of_ble_eq_true rfl) dM_rootPort_40 ?_
        refine jq_icmp_lt (pc := 43) hF 49 dM_rootPort_43 rfl (fun h43 => ?_) (fun h43 => ?_)
        · refine jq_aload_n (pc := 49) hF 4 dM_rootPort_49 rfl ?_
          refine Mg_M_63 (pc := 50) hF dM_rootPort_50 ?_
          refine jq_iload (pc := 53) hF 0 dM_rootPort_53 rfl ?_
          refine Ml_17 (pc := 55) hF (by omega) dM_rootPort_55 ?_
          refine jq_aload_n (pc := 56) hF 4 dM_rootPort_56 rfl ?_
          refine Mg_M_66 (pc := 57) hF dM_rootPort_57 ?_
          refine jq_iload (pc := 60) hF 0 dM_rootPort_60 rfl ?_
          refine Ml_18 (pc := 62) hF (by omega) dM_rootPort_62 ?_
          refine jq_aload_n (pc := 63) hF 4 dM_rootPort_63 rfl ?_
          refine Mg_M_44 (pc := 64) hF dM_rootPort_64 ?_
          refine jq_aload_n (pc := 67) hF 4 dM_rootPort_67 rfl ?_
          refine Mg_M_26 (pc := 68) hF dM_rootPort_68 ?_
          refine jq_iload (pc := 71) hF 0 dM_rootPort_71 rfl ?_
          refine Ml_6 (pc := 73) hF (by omega) dM_rootPort_73 ?_
          refine ML_12 (pc := 74) hF ((hI.wi (p := 4 * b + i) (by omega)).inn (by decide)) dM_rootPort_74 ?_
          refine jq_iadd (pc := 75) hF dM_rootPort_75 ?_
          refine jq_aload_n (pc := 76) hF 4 dM_rootPort_76 rfl ?_
          refine Mg_M_69 (pc := 77) hF dM_rootPort_77 ?_
          refine jq_iload (pc := 80) hF 0 dM_rootPort_80 rfl ?_
          refine Ml_19 (pc := 82) hF (by omega) dM_rootPort_82 ?_
          refine jq_aload_n (pc := 83) hF 4 dM_rootPort_83 rfl ?_
          refine Mg_M_72 (pc := 84) hF dM_rootPort_84 ?_
          refine jq_iload (pc := 87) hF 0 dM_rootPort_87 rfl ?_
          refine Ml_20 (pc := 89) hF (by omega) dM_rootPort_89 ?_
          refine jq_cSL (pc := 90) hF (As := [.int ((τ) 17 (4 * b + i)), .int (((τ) 18 (4 * b + i)) + ((τ) 12 ((τ) 6 (4 * b + i)).toNatClampNeg)), .int ((τ) 19 (4 * b + i)), .int ((τ) 20 (4 * b + i))]) (rest := []) (mM_key l D a cI cZ (τ) ((τ) 17 (4 * b + i)) (((τ) 18 (4 * b + i)) + ((τ) 12 ((τ) 6 (4 * b + i)).toNatClampNeg)) ((τ) 19 (4 * b + i)) ((τ) 20 (4 * b + i)) ) (jG_st mL_M_147 mT_M_key mZ_M mC_M_key) rfl rfl rfl dd_M_key ⟨Nat.le_of_ble_eq_true rfl, Nat.le_of_ble_eq_true rfl⟩ rfl rfl (Nat.le_of_ble_eq_true rfl) dM_rootPort_90 ?_
          refine jq_lstore (pc := 93) hF [(7, .long (mKey ((τ) 17 (4 * b + i)) (((τ) 18 (4 * b + i)) + ((τ) 12 ((τ) 6 (4 * b + i)).toNatClampNeg)) ((τ) 19 (4 * b + i)) ((τ) 20 (4 * b + i)))), (6, .int (nI (4 * b + i))), (5, .int (nI i)), (3, .long ((mPortN τ b i).2)), (2, .int ((mPortN τ b i).1)), (0, .ref (a 0)), (1, .int (nI b))] dM_rootPort_93 (Nat.le_of_ble_eq_true rfl) rfl ?_
          refine jq_iload_n (pc := 95) hF 4 dM_rootPort_95 rfl ?_
          refine jq_if_lt (pc := 96) hF 106 dM_rootPort_96 rfl (fun h96 => ?_) (fun h96 => ?_)
          · refine jq_iload (pc := 106) hF 2 dM_rootPort_106 rfl ?_
            refine jq_istore_n (pc := 108) hF [(2, .int (nI i)), (7, .long (mKey ((τ) 17 (4 * b + i)) (((τ) 18 (4 * b + i)) + ((τ) 12 ((τ) 6 (4 * b + i)).toNatClampNeg)) ((τ) 19 (4 * b + i)) ((τ) 20 (4 * b + i)))), (6, .int (nI (4 * b + i))), (5, .int (nI i)), (3, .long ((mPortN τ b i).2)), (0, .ref (a 0)), (1, .int (nI b))] dM_rootPort_108 (Nat.le_of_ble_eq_true rfl) rfl ?_
            refine jq_lload (pc := 109) hF 1 dM_rootPort_109 rfl ?_
            refine jq_lstore_n (pc := 111) hF [(3, .long (mKey ((τ) 17 (4 * b + i)) (((τ) 18 (4 * b + i)) + ((τ) 12 ((τ) 6 (4 * b + i)).toNatClampNeg)) ((τ) 19 (4 * b + i)) ((τ) 20 (4 * b + i)))), (2, .int (nI i)), (7, .long (mKey ((τ) 17 (4 * b + i)) (((τ) 18 (4 * b + i)) + ((τ) 12 ((τ) 6 (4 * b + i)).toNatClampNeg)) ((τ) 19 (4 * b + i)) ((τ) 20 (4 * b + i)))), (6, .int (nI (4 * b + i))), (5, .int (nI i)), (0, .ref (a 0)), (1, .int (nI b))] dM_rootPort_111 (Nat.le_of_ble_eq_true rfl) rfl ?_
            refine jq_iincN (pc := 112) hF 4 [(5, .int (nI (i + 1))), (3, .long (mKey ((τ) 17 (4 * b + i)) (((τ) 18 (4 * b + i)) + ((τ) 12 ((τ) 6 (4 * b + i)).toNatClampNeg)) ((τ) 19 (4 * b + i)) ((τ) 20 (4 * b + i)))), (2, .int (nI i)), (7, .long (mKey ((τ) 17 (4 * b + i)) (((τ) 18 (4 * b + i)) + ((τ) 12 ((τ) 6 (4 * b + i)).toNatClampNeg)) ((τ) 19 (4 * b + i)) ((τ) 20 (4 * b + i)))), (6, .int (nI (4 * b + i))), (0, .ref (a 0)), (1, .int (nI b))] dM_rootPort_112 rfl (Nat.le_of_ble_eq_true rfl) rfl ?_
            refine jq_goto (pc := 115) hF 7 dM_rootPort_115 rfl ?_
            refine jq_sub [(5, .int (nI (i + 1))), (3, .long (mKey ((τ) 17 (4 * b + i)) (((τ) 18 (4 * b + i)) + ((τ) 12 ((τ) 6 (4 * b + i)).toNatClampNeg)) ((τ) 19 (4 * b + i)) ((τ) 20 (4 * b + i)))), (2, .int (nI i)), (0, .ref (a 0)), (1, .int (nI b))] [0, 1, 2, 5, 6] rfl ?_
            exact jq_at (ih7 (by omega)) rfl rfl (by simp [mPortN, mOffer, h10, h28, h43, h96, Nat.add_assoc]) rfl
          · refine jq_lload (pc := 99) hF 0 dM_rootPort_99 rfl ?_
            refine jq_lload_n (pc := 101) hF 3 dM_rootPort_101 rfl ?_
            refine jq_lcmp (pc := 102) hF dM_rootPort_102 ?_
            refine jq_if_geL (pc := 103) hF 112 dM_rootPort_103 rfl (fun h103 => ?_) (fun h103 => ?_)
            · refine jq_iincN (pc := 112) hF 2 [(5, .int (nI (i + 1))), (7, .long (mKey ((τ) 17 (4 * b + i)) (((τ) 18 (4 * b + i)) + ((τ) 12 ((τ) 6 (4 * b + i)).toNatClampNeg)) ((τ) 19 (4 * b + i)) ((τ) 20 (4 * b + i)))), (6, .int (nI (4 * b + i))), (3, .long ((mPortN τ b i).2)), (2, .int ((mPortN τ b i).1)), (0, .ref (a 0)), (1, .int (nI b))] dM_rootPort_112 rfl (Nat.le_of_ble_eq_true rfl) rfl ?_
              refine jq_goto (pc := 115) hF 7 dM_rootPort_115 rfl ?_
              refine jq_sub [(5, .int (nI (i + 1))), (3, .long ((mPortN τ b i).2)), (2, .int ((mPortN τ b i).1)), (0, .ref (a 0)), (1, .int (nI b))] [0, 3, 4, 5, 6] rfl ?_
              exact jq_at (ih7 (by omega)) rfl rfl (by simp [mPortN, mOffer, h10, h28, h43, h96, h103, Nat.add_assoc]) rfl
            · refine jq_iload (pc := 106) hF 2 dM_rootPort_106 rfl ?_
              refine jq_istore_n (pc := 108) hF [(2, .int (nI i)), (7, .long (mKey ((τ) 17 (4 * b + i)) (((τ) 18 (4 * b + i)) + ((τ) 12 ((τ) 6 (4 * b + i)).toNatClampNeg)) ((τ) 19 (4 * b + i)) ((τ) 20 (4 * b + i)))), (6, .int (nI (4 * b + i))), (5, .int (nI i)), (3, .long ((mPortN τ b i).2)), (0, .ref (a 0)), (1, .int (nI b))] dM_rootPort_108 (Nat.le_of_ble_eq_true rfl) rfl ?_
              refine jq_lload (pc := 109) hF 1 dM_rootPort_109 rfl ?_
              refine jq_lstore_n (pc := 111) hF [(3, .long (mKey ((τ) 17 (4 * b + i)) (((τ) 18 (4 * b + i)) + ((τ) 12 ((τ) 6 (4 * b + i)).toNatClampNeg)) ((τ) 19 (4 * b + i)) ((τ) 20 (4 * b + i)))), (2, .int (nI i)), (7, .long (mKey ((τ) 17 (4 * b + i)) (((τ) 18 (4 * b + i)) + ((τ) 12 ((τ) 6 (4 * b + i)).toNatClampNeg)) ((τ) 19 (4 * b + i)) ((τ) 20 (4 * b + i)))), (6, .int (nI (4 * b + i))), (5, .int (nI i)), (0, .ref (a 0)), (1, .int (nI b))] dM_rootPort_111 (Nat.le_of_ble_eq_true rfl) rfl ?_
              refine jq_iincN (pc := 112) hF 4 [(5, .int (nI (i + 1))), (3, .long (mKey ((τ) 17 (4 * b + i)) (((τ) 18 (4 * b + i)) + ((τ) 12 ((τ) 6 (4 * b + i)).toNatClampNeg)) ((τ) 19 (4 * b + i)) ((τ) 20 (4 * b + i)))), (2, .int (nI i)), (7, .long (mKey ((τ) 17 (4 * b + i)) (((τ) 18 (4 * b + i)) + ((τ) 12 ((τ) 6 (4 * b + i)).toNatClampNeg)) ((τ) 19 (4 * b + i)) ((τ) 20 (4 * b + i)))), (6, .int (nI (4 * b + i))), (0, .ref (a 0)), (1, .int (nI b))] dM_rootPort_112 rfl (Nat.le_of_ble_eq_true rfl) rfl ?_
              refine jq_goto (pc := 115) hF 7 dM_rootPort_115 rfl ?_
              refine jq_sub [(5, .int (nI (i + 1))), (3, .long (mKey ((τ) 17 (4 * b + i)) (((τ) 18 (4 * b + i)) + ((τ) 12 ((τ) 6 (4 * b + i)).toNatClampNeg)) ((τ) 19 (4 * b + i)) ((τ) 20 (4 * b + i)))), (2, .int (nI i)), (0, .ref (a 0)), (1, .int (nI b))] [0, 1, 2, 5, 6] rfl ?_
              exact jq_at (ih7 (by omega)) rfl rfl (by simp [mPortN, mOffer, h10, h28, h43, h96, h103, Nat.add_assoc]) rfl
        · refine jq_goto (pc := 46) hF 112 dM_rootPort_46 rfl ?_
          refine jq_iincN (pc := 112) hF 1 [(5, .int (nI (i + 1))), (6, .int (nI (4 * b + i))), (3, .long ((mPortN τ b i).2)), (2, .int ((mPortN τ b i).1)), (0, .ref (a 0)), (1, .int (nI b))] dM_rootPort_112 rfl (Nat.le_of_ble_eq_true rfl) rfl ?_
          refine jq_goto (pc := 115) hF 7 dM_rootPort_115 rfl ?_
          refine jq_sub [(5, .int (nI (i + 1))), (3, .long ((mPortN τ b i).2)), (2, .int ((mPortN τ b i).1)), (0, .ref (a 0)), (1, .int (nI b))] [0, 2, 3, 4, 5] rfl ?_
          exact jq_at (ih7 (by omega)) rfl rfl (by simp [mPortN, mOffer, h10, h28, h43, Nat.add_assoc]) rfl
  exact jq_at (lp7 0 (by omega)) rfl rfl rfl rfl
set_option maxHeartbeats 4000000 in
set_option maxRecDepth 100000 in
theorem mM_rootOf (l : Launch) (D : va_G) (a : Nat → Nat) (cI cZ : ClassId) (τ : jS) (b : Nat) (hb : b < 6) (hI : mInv τ) : jI l yM_rootOf w_M_rootOf (rmD 2) D (jTys cI cZ) [.ref (a 0), .int (nI b)] (wM a cI cZ τ) (wM a cI cZ (τ)) (mRootOf τ b) := by
  refine jI_of (ws' := jG) rfl (by decide) rfl (Nat.le_of_ble_eq_true rfl) ?_
  intro X hF hk
  show jJ l D (rmD 2) 3 X (wM a cI cZ τ) 0 [(0, .ref (a 0)), (1, .int (nI b))] []
  refine jq_aload_n (pc := 0) hF 0 dM_rootOf_0 rfl ?_
  refine jq_iload_n (pc := 1) hF 1 dM_rootOf_1 rfl ?_
  refine jq_cVI (pc := 2) hF (As := [.int (nI b)]) (rest := []) (mM_rootPort l D a cI cZ τ (b) (by omega) hI) (jG_v mL_M_151 mI_M_rootPort mS_M_rootPort mZ_M mC_M_rootPort) rfl rfl rfl dd_M_rootPort ⟨Nat.le_of_ble_eq_true rfl, Nat.le_of_ble_eq_true rfl⟩ 0 rfl rfl rfl rfl (Nat.le_of_ble_eq_true rfl) dM_rootOf_2 ?_
  refine jq_istore_n (pc := 5) hF [(2, .int (mPort τ (b))), (0, .ref (a 0)), (1, .int (nI b))] dM_rootOf_5 (Nat.le_of_ble_eq_true rfl) rfl ?_
  refine jq_iload_n (pc := 6) hF 0 dM_rootOf_6 rfl ?_
  refine jq_if_ge (pc := 7) hF 18 dM_rootOf_7 rfl (fun h7 => ?_) (fun h7 => ?_)
  · refine jq_aload_n (pc := 18) hF 1 dM_rootOf_18 rfl ?_
    refine Mg_M_63 (pc := 19) hF dM_rootOf_19 ?_
    refine jq_iconst (pc := 22) hF dM_rootOf_22 ic_4 ?_
    refine jq_iload_n (pc := 23) hF 2 dM_rootOf_23 rfl ?_
    refine jq_imulN (pc := 24) hF dM_rootOf_24 ?_
    refine jq_iload_n (pc := 25) hF 0 dM_rootOf_25 rfl ?_
    refine jq_iadd (pc := 26) hF dM_rootOf_26 ?_
    refine ML_17 (pc := 27) hF (mPort_in h7 hb (by decide) (by decide)) dM_rootOf_27 ?_
    exact jq_at (hk 28 _ dM_rootOf_28) rfl rfl rfl (congrArg (fun z => [Value.int z]) (by first | exact if_pos h7 | exact if_neg h7))
  · refine jq_aload_n (pc := 10) hF 1 dM_rootOf_10 rfl ?_
    refine jq_iload_n (pc := 11) hF 2 dM_rootOf_11 rfl ?_
    refine jq_cVI (pc := 12) hF (As := [.int (nI b)]) (rest := []) (mM_id l D a cI cZ τ (b) (by omega)) (jG_v mL_M_143 mI_M_id mS_M_id mZ_M mC_M_id) rfl rfl rfl dd_M_id ⟨Nat.le_of_ble_eq_true rfl, Nat.le_of_ble_eq_true rfl⟩ 0 rfl rfl rfl rfl (Nat.le_of_ble_eq_true rfl) dM_rootOf_12 ?_
    refine jq_goto (pc := 15) hF 28 dM_rootOf_15 rfl ?_
    exact jq_at (hk 28 _ dM_rootOf_28) rfl rfl rfl (congrArg (fun z => [Value.int z]) (by first | exact if_pos h7 | exact if_neg h7))
set_option maxHeartbeats 4000000 in
set_option maxRecDepth 100000 in
theorem mM_distance (l : Launch) (D : va_G) (a : Nat → Nat) (cI cZ : ClassId) (τ : jS) (b : Nat) (hb : b < 6) (hI : mInv τ) : jI l yM_distance w_M_distance (rmD 2) D (jTys cI cZ) [.ref (a 0), .int (nI b)] (wM a cI cZ τ) (wM a cI cZ (τ)) (mDist τ b) := by
  refine jI_of (ws' := jG) rfl (by decide) rfl (Nat.le_of_ble_eq_true rfl) ?_
  intro X hF hk
  show jJ l D (rmD 2) 3 X (wM a cI cZ τ) 0 [(0, .ref (a 0)), (1, .int (nI b))] []
  refine jq_aload_n (pc := 0) hF 0 dM_distance_0 rfl ?_
  refine jq_iload_n (pc := 1) hF 1 dM_distance_1 rfl ?_
  refine jq_cVI (pc := 2) hF (As := [.int (nI b)]) (rest := []) (mM_rootPort l D a cI cZ τ (b) (by omega) hI) (jG_v mL_M_151 mI_M_rootPort mS_M_rootPort mZ_M mC_M_rootPort) rfl rfl rfl dd_M_rootPort ⟨Nat.le_of_ble_eq_true rfl, Nat.le_of_ble_eq_true rfl⟩ 0 rfl rfl rfl rfl (Nat.le_of_ble_eq_true rfl) dM_distance_2 ?_
  refine jq_istore_n (pc := 5) hF [(2, .int (mPort τ (b))), (0, .ref (a 0)), (1, .int (nI b))] dM_distance_5 (Nat.le_of_ble_eq_true rfl) rfl ?_
  refine jq_iload_n (pc := 6) hF 0 dM_distance_6 rfl ?_
  refine jq_if_ge (pc := 7) hF 14 dM_distance_7 rfl (fun h7 => ?_) (fun h7 => ?_)
  · refine jq_aload_n (pc := 14) hF 1 dM_distance_14 rfl ?_
    refine Mg_M_66 (pc := 15) hF dM_distance_15 ?_
    refine jq_iconst (pc := 18) hF dM_distance_18 ic_4 ?_
    refine jq_iload_n (pc := 19) hF 2 dM_distance_19 rfl ?_
    refine jq_imulN (pc := 20) hF dM_distance_20 ?_
    refine jq_iload_n (pc := 21) hF 0 dM_distance_21 rfl ?_
    refine jq_iadd (pc := 22) hF dM_distance_22 ?_
    refine ML_18 (pc := 23) hF (mPort_in h7 hb (by decide) (by decide)) dM_distance_23 ?_
    refine jq_aload_n (pc := 24) hF 1 dM_distance_24 rfl ?_
    refine Mg_M_44 (pc := 25) hF dM_distance_25 ?_
    refine jq_aload_n (pc := 28) hF 1 dM_distance_28 rfl ?_
    refine Mg_M_26 (pc := 29) hF dM_distance_29 ?_
    refine jq_iconst (pc := 32) hF dM_distance_32 ic_4 ?_
    refine jq_iload_n (pc := 33) hF 2 dM_distance_33 rfl ?_
    refine jq_imulN (pc := 34) hF dM_distance_34 ?_
    refine jq_iload_n (pc := 35) hF 0 dM_distance_35 rfl ?_
    refine jq_iadd (pc := 36) hF dM_distance_36 ?_
    refine ML_6 (pc := 37) hF (mPort_in h7 hb (by decide) (by decide)) dM_distance_37 ?_
    refine ML_12 (pc := 38) hF ((hI.wi (mPort_cl h7 hb)).inn (by decide)) dM_distance_38 ?_
    refine jq_iadd (pc := 39) hF dM_distance_39 ?_
    exact jq_at (hk 40 _ dM_distance_40) rfl rfl rfl (congrArg (fun z => [Value.int z]) (by first | exact if_pos h7 | exact if_neg h7))
  · refine jq_iconst (pc := 10) hF dM_distance_10 ic_0 ?_
    refine jq_goto (pc := 11) hF 40 dM_distance_11 rfl ?_
    exact jq_at (hk 40 _ dM_distance_40) rfl rfl rfl (congrArg (fun z => [Value.int z]) (by first | exact if_pos h7 | exact if_neg h7))
set_option maxHeartbeats 4000000 in
set_option maxRecDepth 100000 in
theorem mM_marked (l : Launch) (D : va_G) (a : Nat → Nat) (cI cZ : ClassId) (τ : jS) (b : Nat) (hb : b < 6) (hI : mInv τ) : jI l yM_marked w_M_marked (rmD 2) D (jTys cI cZ) [.ref (a 0), .int (nI b)] (wM a cI cZ τ) (wM a cI cZ (τ)) (bI (mMarked τ b)) := by
  refine jI_of (ws' := jG) (bI_nw _) (by decide) rfl (Nat.le_of_ble_eq_true rfl) ?_
  intro X hF hk
  show jJ l D (rmD 2) 3 X (wM a cI cZ τ) 0 [(0, .ref (a 0)), (1, .int (nI b))] []
  refine jq_aload_n (pc := 0) hF 0 dM_marked_0 rfl ?_
  refine jq_iload_n (pc := 1) hF 1 dM_marked_1 rfl ?_
  refine jq_cVI (pc := 2) hF (As := [.int (nI b)]) (rest := []) (mM_rootPort l D a cI cZ τ (b) (by omega) hI) (jG_v mL_M_151 mI_M_rootPort mS_M_rootPort mZ_M mC_M_rootPort) rfl rfl rfl dd_M_rootPort ⟨Nat.le_of_ble_eq_true rfl, Nat.le_of_ble_eq_true rfl⟩ 0 rfl rfl rfl rfl (Nat.le_of_ble_eq_true rfl) dM_marked_2 ?_
  refine jq_istore_n (pc := 5) hF [(2, .int (mPort τ (b))), (0, .ref (a 0)), (1, .int (nI b))] dM_marked_5 (Nat.le_of_ble_eq_true rfl) rfl ?_
  refine jq_iload_n (pc := 6) hF 0 dM_marked_6 rfl ?_
  refine jq_if_ge (pc := 7) hF 31 dM_marked_7 rfl (fun h7 => ?_) (fun h7 => ?_)
  · refine jq_aload_n (pc := 31) hF 1 dM_marked_31 rfl ?_
    refine Mg_M_78 (pc := 32) hF dM_marked_32 ?_
    refine jq_iconst (pc := 35) hF dM_marked_35 ic_4 ?_
    refine jq_iload_n (pc := 36) hF 2 dM_marked_36 rfl ?_
    refine jq_imulN (pc := 37) hF dM_marked_37 ?_
    refine jq_iload_n (pc := 38) hF 0 dM_marked_38 rfl ?_
    refine jq_iadd (pc := 39) hF dM_marked_39 ?_
    refine ML_22 (pc := 40) hF (mPort_in h7 hb (by decide) (by decide)) dM_marked_40 ?_
    exact jq_at (hk 41 _ dM_marked_41) rfl rfl rfl (congrArg (fun z => [Value.int z]) (by unfold mMarked; rw [if_pos h7]; exact bI2 (hI.mk (Nat.lt_trans (mPort_cl h7 hb) (by decide)))))
  · refine jq_aload_n (pc := 10) hF 1 dM_marked_10 rfl ?_
    refine Mg_M_154 (pc := 11) hF dM_marked_11 ?_
    refine jq_aload_n (pc := 14) hF 1 dM_marked_14 rfl ?_
    refine Mg_M_13 (pc := 15) hF dM_marked_15 ?_
    refine jq_iload_n (pc := 18) hF 2 dM_marked_18 rfl ?_
    refine Ml_2 (pc := 19) hF (by omega) dM_marked_19 ?_
    refine jq_icmp_ge (pc := 20) hF 27 dM_marked_20 rfl (fun h20 => ?_) (fun h20 => ?_)
    · refine jq_iconst (pc := 27) hF dM_marked_27 ic_0 ?_
      refine jq_goto (pc := 28) hF 41 dM_marked_28 rfl ?_
      exact jq_at (hk 41 _ dM_marked_41) rfl rfl rfl (congrArg (fun z => [Value.int z]) (bI0 (by simp [mMarked, h7, h20])))
    · refine jq_iconst (pc := 23) hF dM_marked_23 ic_1 ?_
      refine jq_goto (pc := 24) hF 41 dM_marked_24 rfl ?_
      exact jq_at (hk 41 _ dM_marked_41) rfl rfl rfl (congrArg (fun z => [Value.int z]) (bI1 (by simp [mMarked, h7, h20])))
set_option maxHeartbeats 4000000 in
set_option maxRecDepth 100000 in
theorem mM_roleOf (l : Launch) (D : va_G) (a : Nat → Nat) (cI cZ : ClassId) (τ : jS) (p : Nat) (hp : p < 24) (hI : mInv τ) : jI l yM_roleOf w_M_roleOf (rmD 3) D (jTys cI cZ) [.ref (a 0), .int (nI p)] (wM a cI cZ τ) (wM a cI cZ (τ)) (mRole τ p) := by
  refine jI_of (ws' := jG) rfl (by decide) rfl (Nat.le_of_ble_eq_true rfl) ?_
  intro X hF hk
  show jJ l D (rmD 3) 5 X (wM a cI cZ τ) 0 [(0, .ref (a 0)), (1, .int (nI p))] []
  refine jq_iload_n (pc := 0) hF 1 dM_roleOf_0 rfl ?_
  refine jq_iconst (pc := 1) hF dM_roleOf_1 ic_4 ?_
  refine jq_idivN (pc := 2) hF (by omega) (by decide) (by decide) dM_roleOf_2 ?_
  refine jq_istore_n (pc := 3) hF [(2, .int (nI (p / 4))), (0, .ref (a 0)), (1, .int (nI p))] dM_roleOf_3 (Nat.le_of_ble_eq_true rfl) rfl ?_
  refine jq_aload_n (pc := 4) hF 1 dM_roleOf_4 rfl ?_
  refine jq_iload_n (pc := 5) hF 2 dM_roleOf_5 rfl ?_
  refine jq_cVI (pc := 6) hF (As := [.int (nI p)]) (rest := []) (mM_isUp l D a cI cZ τ (p) (by omega) hI) (jG_v mL_M_157 mI_M_isUp mS_M_isUp mZ_M mC_M_isUp) rfl rfl rfl dd_M_isUp ⟨Nat.le_of_ble_eq_true rfl, Nat.le_of_ble_eq_true rfl⟩ 0 rfl rfl rfl rfl (Nat.le_of_ble_eq_true rfl) dM_roleOf_6 ?_
  refine jq_if_neB (pc := 9) hF 14 dM_roleOf_9 rfl (fun h9 => ?_) (fun h9 => ?_)
  · refine jq_aload_n (pc := 14) hF 1 dM_roleOf_14 rfl ?_
    refine jq_iload_n (pc := 15) hF 0 dM_roleOf_15 rfl ?_
    refine jq_cVI (pc := 16) hF (As := [.int (nI (p / 4))]) (rest := []) (mM_rootPort l D a cI cZ τ (p / 4) (by omega) hI) (jG_v mL_M_151 mI_M_rootPort mS_M_rootPort mZ_M mC_M_rootPort) rfl rfl rfl dd_M_rootPort ⟨Nat.le_of_ble_eq_true rfl, Nat.le_of_ble_eq_true rfl⟩ 0 rfl rfl rfl rfl (Nat.le_of_ble_eq_true rfl) dM_roleOf_16 ?_
    refine jq_iload_n (pc := 19) hF 2 dM_roleOf_19 rfl ?_
    refine jq_iconst (pc := 20) hF dM_roleOf_20 ic_4 ?_
    refine jq_iremN (pc := 21) hF (by omega) (by decide) (by decide) dM_roleOf_21 ?_
    refine jq_icmp_ne (pc := 22) hF 27 dM_roleOf_22 rfl (fun h22 => ?_) (fun h22 => ?_)
    · refine jq_aload_n (pc := 27) hF 1 dM_roleOf_27 rfl ?_
      refine Mg_M_60 (pc := 28) hF dM_roleOf_28 ?_
      refine jq_iload_n (pc := 31) hF 2 dM_roleOf_31 rfl ?_
      refine Ml_16 (pc := 32) hF (by omega) dM_roleOf_32 ?_
      refine jq_if_ne (pc := 33) hF 38 dM_roleOf_33 rfl (fun h33 => ?_) (fun h33 => ?_)
      · refine jq_aload_n (pc := 38) hF 1 dM_roleOf_38 rfl ?_
        refine jq_iload_n (pc := 39) hF 0 dM_roleOf_39 rfl ?_
        refine jq_cVI (pc := 40) hF (As := [.int (nI (p / 4))]) (rest := []) (mM_rootOf l D a cI cZ τ (p / 4) (by omega) hI) (jG_v mL_M_160 mI_M_rootOf mS_M_rootOf mZ_M mC_M_rootOf) rfl rfl rfl dd_M_rootOf ⟨Nat.le_of_ble_eq_true rfl, Nat.le_of_ble_eq_true rfl⟩ 0 rfl rfl rfl rfl (Nat.le_of_ble_eq_true rfl) dM_roleOf_40 ?_
        refine jq_aload_n (pc := 43) hF 1 dM_roleOf_43 rfl ?_
        refine jq_iload_n (pc := 44) hF 0 dM_roleOf_44 rfl ?_
        refine jq_cVI (pc := 45) hF (As := [.int (nI (p / 4))]) (rest := [.int (mRootOf τ (p / 4))]) (mM_distance l D a cI cZ τ (p / 4) (by omega) hI) (jG_v mL_M_163 mI_M_distance mS_M_distance mZ_M mC_M_distance) rfl rfl rfl dd_M_distance ⟨Nat.le_of_ble_eq_true rfl, Nat.le_of_ble_eq_true rfl⟩ 0 rfl rfl rfl rfl (Nat.le_of_ble_eq_true rfl) dM_roleOf_45 ?_
        refine jq_aload_n (pc := 48) hF 1 dM_roleOf_48 rfl ?_
        refine jq_iload_n (pc := 49) hF 0 dM_roleOf_49 rfl ?_
        refine jq_cVI (pc := 50) hF (As := [.int (nI (p / 4))]) (rest := [.int (mDist τ (p / 4)), .int (mRootOf τ (p / 4))]) (mM_id l D a cI cZ τ (p / 4) (by omega)) (jG_v mL_M_143 mI_M_id mS_M_id mZ_M mC_M_id) rfl rfl rfl dd_M_id ⟨Nat.le_of_ble_eq_true rfl, Nat.le_of_ble_eq_true rfl⟩ 0 rfl rfl rfl rfl (Nat.le_of_ble_eq_true rfl) dM_roleOf_50 ?_
        refine jq_iload_n (pc := 53) hF 2 dM_roleOf_53 rfl ?_
        refine jq_iconst (pc := 54) hF dM_roleOf_54 ic_4 ?_
        refine jq_iremN (pc := 55) hF (by omega) (by decide) (by decide) dM_roleOf_55 ?_
        refine jq_cSL (pc := 56) hF (As := [.int (mRootOf τ (p / 4)), .int (mDist τ (p / 4)), .int (mId τ (p / 4)), .int (nI (p % 4))]) (rest := []) (mM_key l D a cI cZ τ (mRootOf τ (p / 4)) (mDist τ (p / 4)) (mId τ (p / 4)) (nI (p % 4)) ) (jG_st mL_M_147 mT_M_key mZ_M mC_M_key) rfl rfl rfl dd_M_key ⟨Nat.le_of_ble_eq_true rfl, Nat.le_of_ble_eq_true rfl⟩ rfl rfl (Nat.le_of_ble_eq_true rfl) dM_roleOf_56 ?_
        refine jq_lstore_n (pc := 59) hF [(3, .long (mKey (mRootOf τ (p / 4)) (mDist τ (p / 4)) (mId τ (p / 4)) (nI (p % 4)))), (2, .int (nI (p / 4))), (0, .ref (a 0)), (1, .int (nI p))] dM_roleOf_59 (Nat.le_of_ble_eq_true rfl) rfl ?_
        refine jq_lload_n (pc := 60) hF 0 dM_roleOf_60 rfl ?_
        refine jq_aload_n (pc := 61) hF 2 dM_roleOf_61 rfl ?_
        refine Mg_M_63 (pc := 62) hF dM_roleOf_62 ?_
        refine jq_iload_n (pc := 65) hF 3 dM_roleOf_65 rfl ?_
        refine Ml_17 (pc := 66) hF (by omega) dM_roleOf_66 ?_
        refine jq_aload_n (pc := 67) hF 2 dM_roleOf_67 rfl ?_
        refine Mg_M_66 (pc := 68) hF dM_roleOf_68 ?_
        refine jq_iload_n (pc := 71) hF 3 dM_roleOf_71 rfl ?_
        refine Ml_18 (pc := 72) hF (by omega) dM_roleOf_72 ?_
        refine jq_aload_n (pc := 73) hF 2 dM_roleOf_73 rfl ?_
        refine Mg_M_69 (pc := 74) hF dM_roleOf_74 ?_
        refine jq_iload_n (pc := 77) hF 3 dM_roleOf_77 rfl ?_
        refine Ml_19 (pc := 78) hF (by omega) dM_roleOf_78 ?_
        refine jq_aload_n (pc := 79) hF 2 dM_roleOf_79 rfl ?_
        refine Mg_M_72 (pc := 80) hF dM_roleOf_80 ?_
        refine jq_iload_n (pc := 83) hF 3 dM_roleOf_83 rfl ?_
        refine Ml_20 (pc := 84) hF (by omega) dM_roleOf_84 ?_
        refine jq_cSL (pc := 85) hF (As := [.int (τ 17 (p)), .int (τ 18 (p)), .int (τ 19 (p)), .int (τ 20 (p))]) (rest := [.long (mKey (mRootOf τ (p / 4)) (mDist τ (p / 4)) (mId τ (p / 4)) (nI (p % 4)))]) (mM_key l D a cI cZ τ (τ 17 (p)) (τ 18 (p)) (τ 19 (p)) (τ 20 (p)) ) (jG_st mL_M_147 mT_M_key mZ_M mC_M_key) rfl rfl rfl dd_M_key ⟨Nat.le_of_ble_eq_true rfl, Nat.le_of_ble_eq_true rfl⟩ rfl rfl (Nat.le_of_ble_eq_true rfl) dM_roleOf_85 ?_
        refine jq_lcmp (pc := 88) hF dM_roleOf_88 ?_
        refine jq_if_geL (pc := 89) hF 96 dM_roleOf_89 rfl (fun h89 => ?_) (fun h89 => ?_)
        · refine jq_iconst (pc := 96) hF dM_roleOf_96 ic_3 ?_
          exact jq_at (hk 97 _ dM_roleOf_97) rfl rfl rfl (congrArg (fun z => [Value.int z]) (by simp [mRole, mKeyO, mKeyM, h9, h22, h33, h89]))
        · refine jq_iconst (pc := 92) hF dM_roleOf_92 ic_2 ?_
          refine jq_goto (pc := 93) hF 97 dM_roleOf_93 rfl ?_
          exact jq_at (hk 97 _ dM_roleOf_97) rfl rfl rfl (congrArg (fun z => [Value.int z]) (by simp [mRole, mKeyO, mKeyM, h9, h22, h33, h89]))
      · refine jq_iconst (pc := 36) hF dM_roleOf_36 ic_2 ?_
        exact jq_at (hk 37 _ dM_roleOf_37) rfl rfl rfl (congrArg (fun z => [Value.int z]) (by simp [mRole, mKeyO, mKeyM, h9, h22, h33]))
    · refine jq_iconst (pc := 25) hF dM_roleOf_25 ic_1 ?_
      exact jq_at (hk 26 _ dM_roleOf_26) rfl rfl rfl (congrArg (fun z => [Value.int z]) (by simp [mRole, mKeyO, mKeyM, h9, h22]))
  · refine jq_iconst (pc := 12) hF dM_roleOf_12 ic_0 ?_
    exact jq_at (hk 13 _ dM_roleOf_13) rfl rfl rfl (congrArg (fun z => [Value.int z]) (by simp [mRole, mKeyO, mKeyM, h9]))
set_option maxHeartbeats 4000000 in
set_option maxRecDepth 100000 in
theorem mM_stateOf (l : Launch) (D : va_G) (a : Nat → Nat) (cI cZ : ClassId) (τ : jS) (p : Nat) (hp : p < 24) (hI : mInv τ) : jI l yM_stateOf w_M_stateOf (rmD 4) D (jTys cI cZ) [.ref (a 0), .int (nI p)] (wM a cI cZ τ) (wM a cI cZ (τ)) (mState τ p) := by
  refine jI_of (ws' := jG) rfl (by decide) rfl (Nat.le_of_ble_eq_true rfl) ?_
  intro X hF hk
  show jJ l D (rmD 4) 4 X (wM a cI cZ τ) 0 [(0, .ref (a 0)), (1, .int (nI p))] []
  refine jq_aload_n (pc := 0) hF 0 dM_stateOf_0 rfl ?_
  refine jq_iload_n (pc := 1) hF 1 dM_stateOf_1 rfl ?_
  refine jq_cVI (pc := 2) hF (As := [.int (nI p)]) (rest := []) (mM_roleOf l D a cI cZ τ (p) (by omega) hI) (jG_v mL_M_166 mI_M_roleOf mS_M_roleOf mZ_M mC_M_roleOf) rfl rfl rfl dd_M_roleOf ⟨Nat.le_of_ble_eq_true rfl, Nat.le_of_ble_eq_true rfl⟩ 0 rfl rfl rfl rfl (Nat.le_of_ble_eq_true rfl) dM_stateOf_2 ?_
  refine jq_istore_n (pc := 5) hF [(2, .int (mRole τ (p))), (0, .ref (a 0)), (1, .int (nI p))] dM_stateOf_5 (Nat.le_of_ble_eq_true rfl) rfl ?_
  refine jq_iload_n (pc := 6) hF 0 dM_stateOf_6 rfl ?_
  refine jq_if_eq (pc := 7) hF 15 dM_stateOf_7 rfl (fun h7 => ?_) (fun h7 => ?_)
  · refine jq_iconst (pc := 15) hF dM_stateOf_15 ic_0 ?_
    exact jq_at (hk 16 _ dM_stateOf_16) rfl rfl rfl (congrArg (fun z => [Value.int z]) (by unfold mState; first | (rw [if_pos h7]; done) | (rw [if_neg h7, if_neg (fun e => e h12)]; done) | (rw [if_neg h7, if_pos h12, if_neg h34]; done) | (rw [if_neg h7, if_pos h12, if_pos h34, if_neg h48]; done) | rw [if_neg h7, if_pos h12, if_pos h34, if_pos h48]))
  · refine jq_iload_n (pc := 10) hF 0 dM_stateOf_10 rfl ?_
    refine jq_iconst (pc := 11) hF dM_stateOf_11 ic_3 ?_
    refine jq_icmp_ne (pc := 12) hF 17 dM_stateOf_12 rfl (fun h12 => ?_) (fun h12 => ?_)
    · refine jq_aload_n (pc := 17) hF 1 dM_stateOf_17 rfl ?_
      refine Mg_M_154 (pc := 18) hF dM_stateOf_18 ?_
      refine jq_aload_n (pc := 21) hF 1 dM_stateOf_21 rfl ?_
      refine Mg_M_84 (pc := 22) hF dM_stateOf_22 ?_
      refine jq_iload_n (pc := 25) hF 2 dM_stateOf_25 rfl ?_
      refine Ml_24 (pc := 26) hF (by omega) dM_stateOf_26 ?_
      refine jq_isub (pc := 27) hF dM_stateOf_27 ?_
      refine jq_istore_n (pc := 28) hF [(3, .int ((τ 0 3) - (τ 24 (p)))), (2, .int (mRole τ (p))), (0, .ref (a 0)), (1, .int (nI p))] dM_stateOf_28 (Nat.le_of_ble_eq_true rfl) rfl ?_
      refine jq_iload_n (pc := 29) hF 0 dM_stateOf_29 rfl ?_
      refine jq_aload_n (pc := 30) hF 2 dM_stateOf_30 rfl ?_
      refine Mg_M_109 (pc := 31) hF dM_stateOf_31 ?_
      refine jq_icmp_ge (pc := 34) hF 41 dM_stateOf_34 rfl (fun h34 => ?_) (fun h34 => ?_)
      · refine jq_iload_n (pc := 41) hF 0 dM_stateOf_41 rfl ?_
        refine jq_iconst (pc := 42) hF dM_stateOf_42 ic_2 ?_
        refine jq_aload_n (pc := 43) hF 2 dM_stateOf_43 rfl ?_
        refine Mg_M_109 (pc := 44) hF dM_stateOf_44 ?_
        refine jq_imul (pc := 47) hF dM_stateOf_47 ?_
        refine jq_icmp_ge (pc := 48) hF 55 dM_stateOf_48 rfl (fun h48 => ?_) (fun h48 => ?_)
        · refine jq_iconst (pc := 55) hF dM_stateOf_55 ic_3 ?_
          exact jq_at (hk 56 _ dM_stateOf_56) rfl rfl rfl (congrArg (fun z => [Value.int z]) (by unfold mState; first | (rw [if_pos h7]; done) | (rw [if_neg h7, if_neg (fun e => e h12)]; done) | (rw [if_neg h7, if_pos h12, if_neg h34]; done) | (rw [if_neg h7, if_pos h12, if_pos h34, if_neg h48]; done) | rw [if_neg h7, if_pos h12, if_pos h34, if_pos h48]))
        · refine jq_iconst (pc := 51) hF dM_stateOf_51 ic_2 ?_
          refine jq_goto (pc := 52) hF 56 dM_stateOf_52 rfl ?_
          exact jq_at (hk 56 _ dM_stateOf_56) rfl rfl rfl (congrArg (fun z => [Value.int z]) (by unfold mState; first | (rw [if_pos h7]; done) | (rw [if_neg h7, if_neg (fun e => e h12)]; done) | (rw [if_neg h7, if_pos h12, if_neg h34]; done) | (rw [if_neg h7, if_pos h12, if_pos h34, if_neg h48]; done) | rw [if_neg h7, if_pos h12, if_pos h34, if_pos h48]))
      · refine jq_iconst (pc := 37) hF dM_stateOf_37 ic_1 ?_
        refine jq_goto (pc := 38) hF 56 dM_stateOf_38 rfl ?_
        exact jq_at (hk 56 _ dM_stateOf_56) rfl rfl rfl (congrArg (fun z => [Value.int z]) (by unfold mState; first | (rw [if_pos h7]; done) | (rw [if_neg h7, if_neg (fun e => e h12)]; done) | (rw [if_neg h7, if_pos h12, if_neg h34]; done) | (rw [if_neg h7, if_pos h12, if_pos h34, if_neg h48]; done) | rw [if_neg h7, if_pos h12, if_pos h34, if_pos h48]))
    · refine jq_iconst (pc := 15) hF dM_stateOf_15 ic_0 ?_
      exact jq_at (hk 16 _ dM_stateOf_16) rfl rfl rfl (congrArg (fun z => [Value.int z]) (by unfold mState; first | (rw [if_pos h7]; done) | (rw [if_neg h7, if_neg (fun e => e h12)]; done) | (rw [if_neg h7, if_pos h12, if_neg h34]; done) | (rw [if_neg h7, if_pos h12, if_pos h34, if_neg h48]; done) | rw [if_neg h7, if_pos h12, if_pos h34, if_pos h48]))
set_option maxHeartbeats 4000000 in
set_option maxRecDepth 100000 in
theorem mM_look (l : Launch) (D : va_G) (a : Nat → Nat) (cI cZ : ClassId) (τ : jS) (nt : Bool) (hI : mInv τ) : jV l yM_look w_M_look (rmD 5) D (jTys cI cZ) [.ref (a 0), .int (bI (nt))] (wM a cI cZ τ) (wM a cI cZ (mLook τ nt)) := by
  refine jV_of (ws' := jG) (by decide) rfl (Nat.le_of_ble_eq_true rfl) ?_
  intro X hF hk
  show jJ l D (rmD 5) 7 X (wM a cI cZ τ) 0 [(0, .ref (a 0)), (1, .int (bI (nt)))] []
  refine jq_iconst (pc := 0) hF dM_look_0 ic_0 ?_
  refine jq_istore_n (pc := 1) hF [(2, .int (nI 0)), (0, .ref (a 0)), (1, .int (bI (nt)))] dM_look_1 (Nat.le_of_ble_eq_true rfl) rfl ?_
  have hnb := hI.nbl.1
  have hI1 : ∀ i, mInv (forN (mLook1 nt) τ i) := fun i => hI.of_fr (fr.n (mLook1_fr nt) _ i) (by decide)
  have lp2 : ∀ i, i ≤ 4 * mNb τ → jJ l D (rmD 5) 7 X (wM a cI cZ (forN (mLook1 nt) τ i)) 2 [(2, .int (nI i)), (0, .ref (a 0)), (1, .int (bI (nt)))] [] := by
    refine loop_up (fun i hi ih2 => ?_)
    refine jq_iload_n (pc := 2) hF 0 dM_look_2 rfl ?_
    refine jq_iconst (pc := 3) hF dM_look_3 ic_4 ?_
    refine jq_aload_n (pc := 4) hF 1 dM_look_4 rfl ?_
    refine Mg_M_115 (pc := 5) hF dM_look_5 ?_
    refine jq_top (nI (mNb τ)) (by rw [(fr.n (mLook1_fr nt) τ i) 0 (by decide)]; exact hI.nbl.2) ?_
    refine jq_imulN (pc := 8) hF dM_look_8 ?_
    refine jq_icmp_geN (pc := 9) hF 153 (by omega) (by omega) dM_look_9 rfl (fun h9 => ?_) (fun h9 => ?_)
    · obtain rfl : i = 4 * mNb τ := by omega
      exact jq_at (hk 153 _ dM_look_153) (congrArg (wM a cI cZ) (by rfl)) rfl rfl rfl
    · refine jq_aload_n (pc := 12) hF 1 dM_look_12 rfl ?_
      refine jq_iload_n (pc := 13) hF 0 dM_look_13 rfl ?_
      refine jq_cVI (pc := 14) hF (As := [.int (nI i)]) (rest := []) (mM_roleOf l D a cI cZ (forN (mLook1 nt) τ i) (i) (by omega) (hI1 i)) (jG_v mL_M_166 mI_M_roleOf mS_M_roleOf mZ_M mC_M_roleOf) rfl rfl rfl dd_M_roleOf ⟨Nat.le_of_ble_eq_true rfl, Nat.le_of_ble_eq_true rfl⟩ 0 rfl rfl rfl rfl (Nat.le_of_ble_eq_true rfl) dM_look_14 ?_
      refine jq_istore_n (pc := 17) hF [(3, .int (mRole (forN (mLook1 nt) τ i) (i))), (2, .int (nI i)), (0, .ref (a 0)), (1, .int (bI (nt)))] dM_look_17 (Nat.le_of_ble_eq_true rfl) rfl ?_
      have j33 : jJ l D (rmD 5) 7 X (wM a cI cZ (forN (mLook1 nt) τ i)) 33 [(3, .int (mRole (forN (mLook1 nt) τ i) (i))), (2, .int (nI i)), (0, .ref (a 0)), (1, .int (bI (nt)))] [.int (bI (mNow (forN (mLook1 nt) τ i) i))] := by
        refine jq_istore (pc := 33) hF [(4, .int (bI (mNow (forN (mLook1 nt) τ i) i))), (3, .int (mRole (forN (mLook1 nt) τ i) (i))), (2, .int (nI i)), (0, .ref (a 0)), (1, .int (bI (nt)))] dM_look_33 (Nat.le_of_ble_eq_true rfl) rfl ?_
        have j59 : jJ l D (rmD 5) 7 X (wM a cI cZ (mLkA (forN (mLook1 nt) τ i) i (mNow (forN (mLook1 nt) τ i) i))) 59 [(4, .int (bI (mNow (forN (mLook1 nt) τ i) i))), (3, .int (mRole (forN (mLook1 nt) τ i) (i))), (2, .int (nI i)), (0, .ref (a 0)), (1, .int (bI (nt)))] [] := by
          refine jq_aload_n (pc := 59) hF 3 dM_look_59 rfl ?_
          refine Mg_M_81 (pc := 60) hF dM_look_60 ?_
          refine jq_iload_n (pc := 63) hF 2 dM_look_63 rfl ?_
          refine jq_iload (pc := 64) hF 0 dM_look_64 rfl ?_
          refine Ms_23 (pc := 66) hF (by omega) (bI_nar _) dM_look_66 ?_
          refine jq_w (wM a cI cZ (mLk2 (forN (mLook1 nt) τ i) i)) (congrArg (wM a cI cZ) (by rfl)) ?_
          refine jq_aload_n (pc := 67) hF 3 dM_look_67 rfl ?_
          refine jq_iload_n (pc := 68) hF 2 dM_look_68 rfl ?_
          refine jq_cVI (pc := 69) hF (As := [.int (nI i)]) (rest := []) (mM_stateOf l D a cI cZ (mLk2 (forN (mLook1 nt) τ i) i) (i) (by omega) ((hI1 i).of_fr (mLk2_fr _ _) (by decide))) (jG_v mL_M_169 mI_M_stateOf mS_M_stateOf mZ_M mC_M_stateOf) rfl rfl rfl dd_M_stateOf ⟨Nat.le_of_ble_eq_true rfl, Nat.le_of_ble_eq_true rfl⟩ 0 rfl rfl rfl rfl (Nat.le_of_ble_eq_true rfl) dM_look_69 ?_
          refine jq_istore (pc := 72) hF [(5, .int (mState (mLk2 (forN (mLook1 nt) τ i) i) (i))), (4, .int (bI (mNow (forN (mLook1 nt) τ i) i))), (3, .int (mRole (forN (mLook1 nt) τ i) (i))), (2, .int (nI i)), (0, .ref (a 0)), (1, .int (bI (nt)))] dM_look_72 (Nat.le_of_ble_eq_true rfl) rfl ?_
          have j119 : jJ l D (rmD 5) 7 X (wM a cI cZ (mLk2 (forN (mLook1 nt) τ i) i)) 119 [(5, .int (mState (mLk2 (forN (mLook1 nt) τ i) i) (i))), (4, .int (bI (mNow (forN (mLook1 nt) τ i) i))), (3, .int (mRole (forN (mLook1 nt) τ i) (i))), (2, .int (nI i)), (0, .ref (a 0)), (1, .int (bI (nt)))] [.int (bI (mTold (mState (mLk2 (forN (mLook1 nt) τ i) i) i) ((mLk2 (forN (mLook1 nt) τ i) i) 25 i)))] := by
            refine jq_istore (pc := 119) hF [(6, .int (bI (mTold (mState (mLk2 (forN (mLook1 nt) τ i) i) i) ((mLk2 (forN (mLook1 nt) τ i) i) 25 i)))), (5, .int (mState (mLk2 (forN (mLook1 nt) τ i) i) (i))), (4, .int (bI (mNow (forN (mLook1 nt) τ i) i))), (3, .int (mRole (forN (mLook1 nt) τ i) (i))), (2, .int (nI i)), (0, .ref (a 0)), (1, .int (bI (nt)))] dM_look_119 (Nat.le_of_ble_eq_true rfl) rfl ?_
            have j139 : jJ l D (rmD 5) 7 X (wM a cI cZ (mLkB (mLk2 (forN (mLook1 nt) τ i) i) i nt (mTold (mState (mLk2 (forN (mLook1 nt) τ i) i) i) ((mLk2 (forN (mLook1 nt) τ i) i) 25 i)))) 139 [(6, .int (bI (mTold (mState (mLk2 (forN (mLook1 nt) τ i) i) i) ((mLk2 (forN (mLook1 nt) τ i) i) 25 i)))), (5, .int (mState (mLk2 (forN (mLook1 nt) τ i) i) (i))), (4, .int (bI (mNow (forN (mLook1 nt) τ i) i))), (3, .int (mRole (forN (mLook1 nt) τ i) (i))), (2, .int (nI i)), (0, .ref (a 0)), (1, .int (bI (nt)))] [] := by
              refine jq_aload_n (pc := 139) hF 5 dM_look_139 rfl ?_
              refine Mg_M_87 (pc := 140) hF dM_look_140 ?_
              refine jq_iload_n (pc := 143) hF 4 dM_look_143 rfl ?_
              refine jq_iload (pc := 144) hF 1 dM_look_144 rfl ?_
              refine Ms_25 (pc := 146) hF (by omega) dM_look_146 ?_
              refine jq_iincN (pc := 147) hF 4 [(2, .int (nI (i + 1))), (6, .int (bI (mTold (mState (mLk2 (forN (mLook1 nt) τ i) i) i) ((mLk2 (forN (mLook1 nt) τ i) i) 25 i)))), (5, .int (mState (mLk2 (forN (mLook1 nt) τ i) i) (i))), (4, .int (bI (mNow (forN (mLook1 nt) τ i) i))), (3, .int (mRole (forN (mLook1 nt) τ i) (i))), (0, .ref (a 0)), (1, .int (bI (nt)))] dM_look_147 rfl (Nat.le_of_ble_eq_true rfl) rfl ?_
              refine jq_goto (pc := 150) hF 2 dM_look_150 rfl ?_
              refine jq_sub [(2, .int (nI (i + 1))), (0, .ref (a 0)), (1, .int (bI (nt)))] [0, 5, 6] rfl ?_
              exact jq_at (ih2 (by omega)) rfl rfl rfl rfl
            refine jq_iload_n (pc := 121) hF 6 dM_look_121 rfl ?_
            refine jq_if_eqB (pc := 122) hF 139 dM_look_122 rfl (fun h122 => ?_) (fun h122 => ?_)
            · exact jq_at j139 (congrArg (wM a cI cZ) (by first | exact if_neg (by rw [h122]; decide) | exact (if_pos h122).trans (if_neg (by rw [h127]; decide)) | exact (if_pos h122).trans (if_pos h127))) rfl rfl rfl
            · refine jq_iload (pc := 125) hF 0 dM_look_125 rfl ?_
              refine jq_if_eqB (pc := 127) hF 139 dM_look_127 rfl (fun h127 => ?_) (fun h127 => ?_)
              · exact jq_at j139 (congrArg (wM a cI cZ) (by first | exact if_neg (by rw [h122]; decide) | exact (if_pos h122).trans (if_neg (by rw [h127]; decide)) | exact (if_pos h122).trans (if_pos h127))) rfl rfl rfl
              · refine jq_aload_n (pc := 130) hF 5 dM_look_130 rfl ?_
                refine Mg_M_16 (pc := 131) hF dM_look_131 ?_
                refine jq_iload_n (pc := 134) hF 4 dM_look_134 rfl ?_
                refine jq_iconst (pc := 135) hF dM_look_135 ic_4 ?_
                refine jq_idivN (pc := 136) hF (by omega) (by decide) (by decide) dM_look_136 ?_
                refine jq_iconst (pc := 137) hF dM_look_137 ic_1 ?_
                refine Ms_3 (pc := 138) hF (by omega) rfl dM_look_138 ?_
                exact jq_at j139 (congrArg (wM a cI cZ) (by first | exact if_neg (by rw [h122]; decide) | exact (if_pos h122).trans (if_neg (by rw [h127]; decide)) | exact (if_pos h122).trans (if_pos h127))) rfl rfl rfl
          refine jq_iload (pc := 74) hF 0 dM_look_74 rfl ?_
          refine jq_iconst (pc := 76) hF dM_look_76 ic_3 ?_
          refine jq_icmp_ne (pc := 77) hF 98 dM_look_77 rfl (fun h77 => ?_) (fun h77 => ?_)
          · refine jq_aload_n (pc := 98) hF 4 dM_look_98 rfl ?_
            refine Mg_M_87 (pc := 99) hF dM_look_99 ?_
            refine jq_iload_n (pc := 102) hF 3 dM_look_102 rfl ?_
            refine Ml_25 (pc := 103) hF (by omega) dM_look_103 ?_
            refine jq_iconst (pc := 104) hF dM_look_104 ic_2 ?_
            refine jq_icmp_lt (pc := 105) hF 118 dM_look_105 rfl (fun h105 => ?_) (fun h105 => ?_)
            · refine jq_iconst (pc := 118) hF dM_look_118 ic_0 ?_
              exact jq_at j119 rfl rfl rfl (congrArg (fun z => Value.int z :: []) (bI0 (by unfold mTold; first | (rw [if_pos h77]; simp [h87]; done) | (rw [if_neg h77]; simp [h105]; done) | (rw [if_neg h77]; simp [h105, h111]; done))))
            · refine jq_iload (pc := 108) hF 0 dM_look_108 rfl ?_
              refine jq_iconst (pc := 110) hF dM_look_110 ic_2 ?_
              refine jq_icmp_eq (pc := 111) hF 118 dM_look_111 rfl (fun h111 => ?_) (fun h111 => ?_)
              · refine jq_iconst (pc := 118) hF dM_look_118 ic_0 ?_
                exact jq_at j119 rfl rfl rfl (congrArg (fun z => Value.int z :: []) (bI0 (by unfold mTold; first | (rw [if_pos h77]; simp [h87]; done) | (rw [if_neg h77]; simp [h105]; done) | (rw [if_neg h77]; simp [h105, h111]; done))))
              · refine jq_iconst (pc := 114) hF dM_look_114 ic_1 ?_
                refine jq_goto (pc := 115) hF 119 dM_look_115 rfl ?_
                exact jq_at j119 rfl rfl rfl (congrArg (fun z => Value.int z :: []) (bI1 (by unfold mTold; first | (rw [if_pos h77]; simp [h87]; done) | (rw [if_neg h77]; simp [h105]; done) | (rw [if_neg h77]; simp [h105, h111]; done))))
          · refine jq_aload_n (pc := 80) hF 4 dM_look_80 rfl ?_
            refine Mg_M_87 (pc := 81) hF dM_look_81 ?_
            refine jq_iload_n (pc := 84) hF 3 dM_look_84 rfl ?_
            refine Ml_25 (pc := 85) hF (by omega) dM_look_85 ?_
            refine jq_iconst (pc := 86) hF dM_look_86 ic_3 ?_
            refine jq_icmp_eq (pc := 87) hF 94 dM_look_87 rfl (fun h87 => ?_) (fun h87 => ?_)
            · refine jq_iconst (pc := 94) hF dM_look_94 ic_0 ?_
              refine jq_goto (pc := 95) hF 119 dM_look_95 rfl ?_
              exact jq_at j119 rfl rfl rfl (congrArg (fun z => Value.int z :: []) (bI0 (by unfold mTold; first | (rw [if_pos h77]; simp [h87]; done) | (rw [if_neg h77]; simp [h105]; done) | (rw [if_neg h77]; simp [h105, h111]; done))))
            · refine jq_iconst (pc := 90) hF dM_look_90 ic_1 ?_
              refine jq_goto (pc := 91) hF 119 dM_look_91 rfl ?_
              exact jq_at j119 rfl rfl rfl (congrArg (fun z => Value.int z :: []) (bI1 (by unfold mTold; first | (rw [if_pos h77]; simp [h87]; done) | (rw [if_neg h77]; simp [h105]; done) | (rw [if_neg h77]; simp [h105, h111]; done))))
        refine jq_iload (pc := 35) hF 0 dM_look_35 rfl ?_
        refine jq_if_eqB (pc := 37) hF 59 dM_look_37 rfl (fun h37 => ?_) (fun h37 => ?_)
        · exact jq_at j59 (congrArg (wM a cI cZ) (by first | exact if_neg (by rw [h37]; decide) | exact (if_pos h37).trans (if_pos h46) | exact (if_pos h37).trans (if_neg (fun e => e h46)))) rfl rfl rfl
        · refine jq_aload_n (pc := 40) hF 3 dM_look_40 rfl ?_
          refine Mg_M_81 (pc := 41) hF dM_look_41 ?_
          refine jq_iload_n (pc := 44) hF 2 dM_look_44 rfl ?_
          refine Ml_23 (pc := 45) hF (by omega) dM_look_45 ?_
          refine jq_if_ne (pc := 46) hF 59 dM_look_46 rfl (fun h46 => ?_) (fun h46 => ?_)
          · exact jq_at j59 (congrArg (wM a cI cZ) (by first | exact if_neg (by rw [h37]; decide) | exact (if_pos h37).trans (if_pos h46) | exact (if_pos h37).trans (if_neg (fun e => e h46)))) rfl rfl rfl
          · refine jq_aload_n (pc := 49) hF 3 dM_look_49 rfl ?_
            refine Mg_M_84 (pc := 50) hF dM_look_50 ?_
            refine jq_iload_n (pc := 53) hF 2 dM_look_53 rfl ?_
            refine jq_aload_n (pc := 54) hF 3 dM_look_54 rfl ?_
            refine Mg_M_154 (pc := 55) hF dM_look_55 ?_
            refine Ms_24 (pc := 58) hF (by omega) dM_look_58 ?_
            exact jq_at j59 (congrArg (wM a cI cZ) (by first | exact if_neg (by rw [h37]; decide) | exact (if_pos h37).trans (if_pos h46) | exact (if_pos h37).trans (if_neg (fun e => e h46)))) rfl rfl rfl
      refine jq_iload_n (pc := 18) hF 0 dM_look_18 rfl ?_
      refine jq_iconst (pc := 19) hF dM_look_19 ic_1 ?_
      refine jq_icmp_eq (pc := 20) hF 28 dM_look_20 rfl (fun h20 => ?_) (fun h20 => ?_)
      · refine jq_iconst (pc := 28) hF dM_look_28 ic_1 ?_
        refine jq_goto (pc := 29) hF 33 dM_look_29 rfl ?_
        exact jq_at j33 rfl rfl rfl (congrArg (fun z => Value.int z :: []) (bI1 (by simp [mNow, h9, h20])))
      · refine jq_iload_n (pc := 23) hF 0 dM_look_23 rfl ?_
        refine jq_iconst (pc := 24) hF dM_look_24 ic_2 ?_
        refine jq_icmp_ne (pc := 25) hF 32 dM_look_25 rfl (fun h25 => ?_) (fun h25 => ?_)
        · refine jq_iconst (pc := 32) hF dM_look_32 ic_0 ?_
          exact jq_at j33 rfl rfl rfl (congrArg (fun z => Value.int z :: []) (bI0 (by simp [mNow, h9, h20, h25])))
        · refine jq_iconst (pc := 28) hF dM_look_28 ic_1 ?_
          refine jq_goto (pc := 29) hF 33 dM_look_29 rfl ?_
          exact jq_at j33 rfl rfl rfl (congrArg (fun z => Value.int z :: []) (bI1 (by simp [mNow, h9, h20, h25])))
  exact jq_at (lp2 0 (by omega)) rfl rfl rfl rfl
set_option maxHeartbeats 4000000 in
set_option maxRecDepth 100000 in
theorem mM_other (l : Launch) (D : va_G) (a : Nat → Nat) (cI cZ : ClassId) (τ : jS) (p : Nat) (hp : p < 24) (hI : mInv τ) : jI l yM_other w_M_other (rmD 0) D (jTys cI cZ) [.ref (a 0), .int (nI p)] (wM a cI cZ τ) (wM a cI cZ (τ)) (mOther τ p) := by
  refine jI_of (ws' := jG) rfl (by decide) rfl (Nat.le_of_ble_eq_true rfl) ?_
  intro X hF hk
  show jJ l D (rmD 0) 3 X (wM a cI cZ τ) 0 [(0, .ref (a 0)), (1, .int (nI p))] []
  refine jq_aload_n (pc := 0) hF 0 dM_other_0 rfl ?_
  refine Mg_M_26 (pc := 1) hF dM_other_1 ?_
  refine jq_iload_n (pc := 4) hF 1 dM_other_4 rfl ?_
  refine Ml_6 (pc := 5) hF (by omega) dM_other_5 ?_
  refine jq_istore_n (pc := 6) hF [(2, .int (τ 6 (p))), (0, .ref (a 0)), (1, .int (nI p))] dM_other_6 (Nat.le_of_ble_eq_true rfl) rfl ?_
  refine jq_aload_n (pc := 7) hF 1 dM_other_7 rfl ?_
  refine Mg_M_38 (pc := 8) hF dM_other_8 ?_
  refine jq_iload_n (pc := 11) hF 0 dM_other_11 rfl ?_
  refine ML_10 (pc := 12) hF ((hI.wi hp).inn (by decide)) dM_other_12 ?_
  refine jq_iload_n (pc := 13) hF 2 dM_other_13 rfl ?_
  refine jq_icmp_ne (pc := 14) hF 26 dM_other_14 rfl (fun h14 => ?_) (fun h14 => ?_)
  · refine jq_aload_n (pc := 26) hF 1 dM_other_26 rfl ?_
    refine Mg_M_38 (pc := 27) hF dM_other_27 ?_
    refine jq_iload_n (pc := 30) hF 0 dM_other_30 rfl ?_
    refine ML_10 (pc := 31) hF ((hI.wi hp).inn (by decide)) dM_other_31 ?_
    exact jq_at (hk 32 _ dM_other_32) rfl rfl rfl (congrArg (fun z => [Value.int z]) (by simp [mOther, h14]))
  · refine jq_aload_n (pc := 17) hF 1 dM_other_17 rfl ?_
    refine Mg_M_41 (pc := 18) hF dM_other_18 ?_
    refine jq_iload_n (pc := 21) hF 0 dM_other_21 rfl ?_
    refine ML_11 (pc := 22) hF ((hI.wi hp).inn (by decide)) dM_other_22 ?_
    refine jq_goto (pc := 23) hF 32 dM_other_23 rfl ?_
    exact jq_at (hk 32 _ dM_other_32) rfl rfl rfl (congrArg (fun z => [Value.int z]) (by simp [mOther, h14]))
set_option maxHeartbeats 4000000 in
set_option maxRecDepth 100000 in
theorem mM_age (l : Launch) (D : va_G) (a : Nat → Nat) (cI cZ : ClassId) (τ : jS)   : jV l yM_age w_M_age (rmD 0) D (jTys cI cZ) [.ref (a 0)] (wM a cI cZ τ) (wM a cI cZ (mAge τ)) := by
  refine jV_of (ws' := jG) (by decide) rfl (Nat.le_of_ble_eq_true rfl) ?_
  intro X hF hk
  show jJ l D (rmD 0) 2 X (wM a cI cZ τ) 0 [(0, .ref (a 0))] []
  refine jq_iconst (pc := 0) hF dM_age_0 ic_0 ?_
  refine jq_istore_n (pc := 1) hF [(1, .int (nI 0)), (0, .ref (a 0))] dM_age_1 (Nat.le_of_ble_eq_true rfl) rfl ?_
  have lp2 : ∀ i, i ≤ 24 → jJ l D (rmD 0) 2 X (wM a cI cZ (forN mAge1 τ i)) 2 [(1, .int (nI i)), (0, .ref (a 0))] [] := by
    refine loop_up (fun i hi ih2 => ?_)
    refine jq_iload_n (pc := 2) hF 0 dM_age_2 rfl ?_
    refine jq_bipush (pc := 3) hF dM_age_3 bi_24 ?_
    refine jq_icmp_geN (pc := 5) hF 57 (by omega) (by omega) dM_age_5 rfl (fun h5 => ?_) (fun h5 => ?_)
    · obtain rfl : i = 24 := by omega
      exact jq_at (hk 57 _ dM_age_57) (congrArg (wM a cI cZ) (by rfl)) rfl rfl rfl
    · refine jq_aload_n (pc := 8) hF 1 dM_age_8 rfl ?_
      refine Mg_M_60 (pc := 9) hF dM_age_9 ?_
      refine jq_iload_n (pc := 12) hF 0 dM_age_12 rfl ?_
      refine Ml_16 (pc := 13) hF (by omega) dM_age_13 ?_
      refine jq_if_eq (pc := 14) hF 51 dM_age_14 rfl (fun h14 => ?_) (fun h14 => ?_)
      · refine jq_iincN (pc := 51) hF 0 [(1, .int (nI (i + 1))), (0, .ref (a 0))] dM_age_51 rfl (Nat.le_of_ble_eq_true rfl) rfl ?_
        refine jq_goto (pc := 54) hF 2 dM_age_54 rfl ?_
        refine jq_sub [(1, .int (nI (i + 1))), (0, .ref (a 0))] [0, 1] rfl ?_
        exact jq_at (ih2 (by omega)) (congrArg (wM a cI cZ) (by first | exact if_pos h14 | exact if_neg h14)) rfl rfl rfl
      · refine jq_aload_n (pc := 17) hF 1 dM_age_17 rfl ?_
        refine Mg_M_75 (pc := 18) hF dM_age_18 ?_
        refine jq_iload_n (pc := 21) hF 0 dM_age_21 rfl ?_
        refine jq_dup2 (pc := 22) hF dM_age_22 rfl rfl ?_
        refine Ml_21 (pc := 23) hF (by omega) dM_age_23 ?_
        refine jq_iconst (pc := 24) hF dM_age_24 ic_1 ?_
        refine jq_iadd (pc := 25) hF dM_age_25 ?_
        refine Ms_21 (pc := 26) hF (by omega) dM_age_26 ?_
        refine jq_aload_n (pc := 27) hF 1 dM_age_27 rfl ?_
        refine Mg_M_60 (pc := 28) hF dM_age_28 ?_
        refine jq_iload_n (pc := 31) hF 0 dM_age_31 rfl ?_
        refine jq_aload_n (pc := 32) hF 1 dM_age_32 rfl ?_
        refine Mg_M_75 (pc := 33) hF dM_age_33 ?_
        refine jq_iload_n (pc := 36) hF 0 dM_age_36 rfl ?_
        refine Ml_21 (pc := 37) hF (by omega) dM_age_37 ?_
        refine jq_aload_n (pc := 38) hF 1 dM_age_38 rfl ?_
        refine Mg_M_106 (pc := 39) hF dM_age_39 ?_
        have j50 : jJ l D (rmD 0) 2 X (wM a cI cZ (sU (forN mAge1 τ i) 21 (i) (((forN mAge1 τ i) 21 (i)) + (nI (1))))) 50 [(1, .int (nI i)), (0, .ref (a 0))] [.int (bI (!decide ((sU (forN mAge1 τ i) 21 (i) (((forN mAge1 τ i) 21 (i)) + (nI (1)))) 0 0 ≤ (sU (forN mAge1 τ i) 21 (i) (((forN mAge1 τ i) 21 (i)) + (nI (1)))) 21 (i)))), .int (nI i), .ref (a 16)] := by
          refine Ms_16 (pc := 50) hF (by omega) (bI_nar _) dM_age_50 ?_
          refine jq_iincN (pc := 51) hF 0 [(1, .int (nI (i + 1))), (0, .ref (a 0))] dM_age_51 rfl (Nat.le_of_ble_eq_true rfl) rfl ?_
          refine jq_goto (pc := 54) hF 2 dM_age_54 rfl ?_
          refine jq_sub [(1, .int (nI (i + 1))), (0, .ref (a 0))] [0, 1] rfl ?_
          exact jq_at (ih2 (by omega)) (congrArg (wM a cI cZ) (by first | exact if_pos h14 | exact if_neg h14)) rfl rfl rfl
        refine jq_icmp_ge (pc := 42) hF 49 dM_age_42 rfl (fun h42 => ?_) (fun h42 => ?_)
        · refine jq_iconst (pc := 49) hF dM_age_49 ic_0 ?_
          exact jq_at j50 rfl rfl rfl (by rw [decide_eq_true h42]; rfl)
        · refine jq_iconst (pc := 45) hF dM_age_45 ic_1 ?_
          refine jq_goto (pc := 46) hF 50 dM_age_46 rfl ?_
          exact jq_at j50 rfl rfl rfl (by rw [decide_eq_false h42]; rfl)
  exact jq_at (lp2 0 (by omega)) rfl rfl rfl rfl
set_option maxHeartbeats 4000000 in
set_option maxRecDepth 100000 in
theorem mM_passNotices (l : Launch) (D : va_G) (a : Nat → Nat) (cI cZ : ClassId) (τ : jS)  (hI : mInv τ) : jV l yM_passNotices w_M_passNotices (rmD 2) D (jTys cI cZ) [.ref (a 0)] (wM a cI cZ τ) (wM a cI cZ (mPass τ)) := by
  refine jV_of (ws' := jG) (by decide) rfl (Nat.le_of_ble_eq_true rfl) ?_
  intro X hF hk
  show jJ l D (rmD 2) 3 X (wM a cI cZ τ) 0 [(0, .ref (a 0))] []
  refine jq_iconst (pc := 0) hF dM_passNotices_0 ic_0 ?_
  refine jq_istore_n (pc := 1) hF [(1, .int (nI 0)), (0, .ref (a 0))] dM_passNotices_1 (Nat.le_of_ble_eq_true rfl) rfl ?_
  have hnb := hI.nbl.1
  have hI2 : ∀ j, mInv (forN mPassB (forN mClr τ 6) j) := fun j => hI.of_fr ((fr.n mClr_fr τ _).tr (fr.n mPassB_fr _ j)) (by decide)
  have lp2 : ∀ i, i ≤ 6 → jJ l D (rmD 2) 3 X (wM a cI cZ (forN mClr τ i)) 2 [(1, .int (nI i)), (0, .ref (a 0))] [] := by
    refine loop_up (fun i hi ih2 => ?_)
    refine jq_iload_n (pc := 2) hF 0 dM_passNotices_2 rfl ?_
    refine jq_bipush (pc := 3) hF dM_passNotices_3 bi_6 ?_
    refine jq_icmp_geN (pc := 5) hF 21 (by omega) (by omega) dM_passNotices_5 rfl (fun h5 => ?_) (fun h5 => ?_)
    · obtain rfl : i = 6 := by omega
      refine jq_iconst (pc := 21) hF dM_passNotices_21 ic_0 ?_
      refine jq_istore_n (pc := 22) hF [(1, .int (nI 0)), (0, .ref (a 0))] dM_passNotices_22 (Nat.le_of_ble_eq_true rfl) rfl ?_
      have lp23 : ∀ j, j ≤ mNb τ → jJ l D (rmD 2) 3 X (wM a cI cZ (forN mPassB (forN mClr τ 6) j)) 23 [(1, .int (nI j)), (0, .ref (a 0))] [] := by
        refine loop_up (fun j hi ih23 => ?_)
        refine jq_iload_n (pc := 23) hF 0 dM_passNotices_23 rfl ?_
        refine jq_aload_n (pc := 24) hF 1 dM_passNotices_24 rfl ?_
        refine Mg_M_115 (pc := 25) hF dM_passNotices_25 ?_
        refine jq_top (nI (mNb τ)) (by rw [((fr.n mClr_fr τ _).tr (fr.n mPassB_fr _ j)) 0 (by decide)]; exact hI.nbl.2) ?_
        refine jq_icmp_geN (pc := 28) hF 99 (by omega) (by omega) dM_passNotices_28 rfl (fun h28 => ?_) (fun h28 => ?_)
        · obtain rfl : j = mNb τ := by omega
          refine jq_iconst (pc := 99) hF dM_passNotices_99 ic_0 ?_
          refine jq_istore_n (pc := 100) hF [(1, .int (nI 0)), (0, .ref (a 0))] dM_passNotices_100 (Nat.le_of_ble_eq_true rfl) rfl ?_
          have lp101 : ∀ k, k ≤ 6 → jJ l D (rmD 2) 3 X (wM a cI cZ (forN mCpy (forN mPassB (forN mClr τ 6) (mNb τ)) k)) 101 [(1, .int (nI k)), (0, .ref (a 0))] [] := by
            refine loop_up (fun k hi ih101 => ?_)
            refine jq_iload_n (pc := 101) hF 0 dM_passNotices_101 rfl ?_
            refine jq_bipush (pc := 102) hF dM_passNotices_102 bi_6 ?_
            refine jq_icmp_geN (pc := 104) hF 125 (by omega) (by omega) dM_passNotices_104 rfl (fun h104 => ?_) (fun h104 => ?_)
            · obtain rfl : k = 6 := by omega
              exact jq_at (hk 125 _ dM_passNotices_125) (congrArg (wM a cI cZ) (by rfl)) rfl rfl rfl
            · refine jq_aload_n (pc := 107) hF 1 dM_passNotices_107 rfl ?_
              refine Mg_M_16 (pc := 108) hF dM_passNotices_108 ?_
              refine jq_iload_n (pc := 111) hF 0 dM_passNotices_111 rfl ?_
              refine jq_aload_n (pc := 112) hF 1 dM_passNotices_112 rfl ?_
              refine Mg_M_20 (pc := 113) hF dM_passNotices_113 ?_
              refine jq_iload_n (pc := 116) hF 0 dM_passNotices_116 rfl ?_
              refine Ml_4 (pc := 117) hF (by omega) dM_passNotices_117 ?_
              refine Mz_3 (pc := 118) hF (by omega) dM_passNotices_118 ?_
              refine jq_iincN (pc := 119) hF 0 [(1, .int (nI (k + 1))), (0, .ref (a 0))] dM_passNotices_119 rfl (Nat.le_of_ble_eq_true rfl) rfl ?_
              refine jq_goto (pc := 122) hF 101 dM_passNotices_122 rfl ?_
              refine jq_sub [(1, .int (nI (k + 1))), (0, .ref (a 0))] [0, 1] rfl ?_
              exact jq_at (ih101 (by omega)) rfl rfl rfl rfl
          exact jq_at (lp101 0 (by omega)) rfl rfl rfl rfl
        · refine jq_aload_n (pc := 31) hF 1 dM_passNotices_31 rfl ?_
          refine Mg_M_16 (pc := 32) hF dM_passNotices_32 ?_
          refine jq_iload_n (pc := 35) hF 0 dM_passNotices_35 rfl ?_
          refine Ml_3 (pc := 36) hF (by omega) dM_passNotices_36 ?_
          refine jq_if_ne (pc := 37) hF 43 dM_passNotices_37 rfl (fun h37 => ?_) (fun h37 => ?_)
          · refine jq_aload_n (pc := 43) hF 1 dM_passNotices_43 rfl ?_
            refine jq_iload_n (pc := 44) hF 0 dM_passNotices_44 rfl ?_
            refine jq_cVI (pc := 45) hF (As := [.int (nI j)]) (rest := []) (mM_rootPort l D a cI cZ (forN mPassB (forN mClr τ 6) j) (j) (by omega) (hI2 j)) (jG_v mL_M_151 mI_M_rootPort mS_M_rootPort mZ_M mC_M_rootPort) rfl rfl rfl dd_M_rootPort ⟨Nat.le_of_ble_eq_true rfl, Nat.le_of_ble_eq_true rfl⟩ 0 rfl rfl rfl rfl (Nat.le_of_ble_eq_true rfl) dM_passNotices_45 ?_
            refine jq_istore_n (pc := 48) hF [(2, .int (mPort (forN mPassB (forN mClr τ 6) j) (j))), (1, .int (nI j)), (0, .ref (a 0))] dM_passNotices_48 (Nat.le_of_ble_eq_true rfl) rfl ?_
            refine jq_iload_n (pc := 49) hF 0 dM_passNotices_49 rfl ?_
            refine jq_if_ge (pc := 50) hF 76 dM_passNotices_50 rfl (fun h50 => ?_) (fun h50 => ?_)
            · refine jq_aload_n (pc := 76) hF 2 dM_passNotices_76 rfl ?_
              refine Mg_M_20 (pc := 77) hF dM_passNotices_77 ?_
              refine jq_aload_n (pc := 80) hF 2 dM_passNotices_80 rfl ?_
              refine jq_iconst (pc := 81) hF dM_passNotices_81 ic_4 ?_
              refine jq_iload_n (pc := 82) hF 1 dM_passNotices_82 rfl ?_
              refine jq_imulN (pc := 83) hF dM_passNotices_83 ?_
              refine jq_iload_n (pc := 84) hF 0 dM_passNotices_84 rfl ?_
              refine jq_iadd (pc := 85) hF dM_passNotices_85 ?_
              refine jq_top (nI (4 * j + (mPort (forN mPassB (forN mClr τ 6) j) (j)).toNatClampNeg)) (mPort_add h50) ?_
              refine jq_cVI (pc := 86) hF (As := [.int (nI (4 * j + (mPort (forN mPassB (forN mClr τ 6) j) (j)).toNatClampNeg))]) (rest := [.ref (a 4)]) (mM_other l D a cI cZ (forN mPassB (forN mClr τ 6) j) (4 * j + (mPort (forN mPassB (forN mClr τ 6) j) (j)).toNatClampNeg) (by have := (mPort_at h50).1; omega) (hI2 j)) (jG_v mL_M_172 mI_M_other mS_M_other mZ_M mC_M_other) rfl rfl rfl dd_M_other ⟨Nat.le_of_ble_eq_true rfl, Nat.le_of_ble_eq_true rfl⟩ 0 rfl rfl rfl rfl (Nat.le_of_ble_eq_true rfl) dM_passNotices_86 ?_
              refine jq_iconst (pc := 89) hF dM_passNotices_89 ic_4 ?_
              refine jq_idiv (pc := 90) hF dM_passNotices_90 (by decide) ?_
              refine jq_iconst (pc := 91) hF dM_passNotices_91 ic_1 ?_
              refine MS_4 (pc := 92) hF (inDiv4 (mOther_ok (hI2 j) (by have := (mPort_at h50).1; omega))) rfl dM_passNotices_92 ?_
              refine jq_iincN (pc := 93) hF 1 [(1, .int (nI (j + 1))), (2, .int (mPort (forN mPassB (forN mClr τ 6) j) (j))), (0, .ref (a 0))] dM_passNotices_93 rfl (Nat.le_of_ble_eq_true rfl) rfl ?_
              refine jq_goto (pc := 96) hF 23 dM_passNotices_96 rfl ?_
              refine jq_sub [(1, .int (nI (j + 1))), (0, .ref (a 0))] [0, 2] rfl ?_
              exact jq_at (ih23 (by omega)) (congrArg (wM a cI cZ) (by exact (if_pos h37).trans (if_pos h50))) rfl rfl rfl
            · refine jq_aload_n (pc := 53) hF 2 dM_passNotices_53 rfl ?_
              refine Mg_M_13 (pc := 54) hF dM_passNotices_54 ?_
              refine jq_iload_n (pc := 57) hF 1 dM_passNotices_57 rfl ?_
              refine jq_aload_n (pc := 58) hF 2 dM_passNotices_58 rfl ?_
              refine Mg_M_154 (pc := 59) hF dM_passNotices_59 ?_
              refine jq_aload_n (pc := 62) hF 2 dM_passNotices_62 rfl ?_
              refine Mg_M_106 (pc := 63) hF dM_passNotices_63 ?_
              refine jq_iadd (pc := 66) hF dM_passNotices_66 ?_
              refine jq_aload_n (pc := 67) hF 2 dM_passNotices_67 rfl ?_
              refine Mg_M_109 (pc := 68) hF dM_passNotices_68 ?_
              refine jq_iadd (pc := 71) hF dM_passNotices_71 ?_
              refine Ms_2 (pc := 72) hF (by omega) dM_passNotices_72 ?_
              refine jq_goto (pc := 73) hF 93 dM_passNotices_73 rfl ?_
              refine jq_iincN (pc := 93) hF 1 [(1, .int (nI (j + 1))), (2, .int (mPort (forN mPassB (forN mClr τ 6) j) (j))), (0, .ref (a 0))] dM_passNotices_93 rfl (Nat.le_of_ble_eq_true rfl) rfl ?_
              refine jq_goto (pc := 96) hF 23 dM_passNotices_96 rfl ?_
              refine jq_sub [(1, .int (nI (j + 1))), (0, .ref (a 0))] [0, 2] rfl ?_
              exact jq_at (ih23 (by omega)) (congrArg (wM a cI cZ) (by exact (if_pos h37).trans (if_neg h50))) rfl rfl rfl
          · refine jq_goto (pc := 40) hF 93 dM_passNotices_40 rfl ?_
            refine jq_iincN (pc := 93) hF 0 [(1, .int (nI (j + 1))), (0, .ref (a 0))] dM_passNotices_93 rfl (Nat.le_of_ble_eq_true rfl) rfl ?_
            refine jq_goto (pc := 96) hF 23 dM_passNotices_96 rfl ?_
            refine jq_sub [(1, .int (nI (j + 1))), (0, .ref (a 0))] [0, 1] rfl ?_
            exact jq_at (ih23 (by omega)) (congrArg (wM a cI cZ) (by exact if_neg (fun e => e h37))) rfl rfl rfl
      exact jq_at (lp23 0 (by omega)) rfl rfl rfl rfl
    · refine jq_aload_n (pc := 8) hF 1 dM_passNotices_8 rfl ?_
      refine Mg_M_20 (pc := 9) hF dM_passNotices_9 ?_
      refine jq_iload_n (pc := 12) hF 0 dM_passNotices_12 rfl ?_
      refine jq_iconst (pc := 13) hF dM_passNotices_13 ic_0 ?_
      refine Ms_4 (pc := 14) hF (by omega) rfl dM_passNotices_14 ?_
      refine jq_iincN (pc := 15) hF 0 [(1, .int (nI (i + 1))), (0, .ref (a 0))] dM_passNotices_15 rfl (Nat.le_of_ble_eq_true rfl) rfl ?_
      refine jq_goto (pc := 18) hF 2 dM_passNotices_18 rfl ?_
      refine jq_sub [(1, .int (nI (i + 1))), (0, .ref (a 0))] [0, 1] rfl ?_
      exact jq_at (ih2 (by omega)) rfl rfl rfl rfl
  exact jq_at (lp2 0 (by omega)) rfl rfl rfl rfl
set_option maxHeartbeats 4000000 in
set_option maxRecDepth 100000 in
theorem mM_hold (l : Launch) (D : va_G) (a : Nat → Nat) (cI cZ : ClassId) (τ : jS) (p : Nat) (q : Nat) (hp : p < 24) (hq : q < 48) (hI : mInv τ) : jV l yM_hold w_M_hold (rmD 0) D (jTys cI cZ) [.ref (a 0), .int (nI p), .int (nI q)] (wM a cI cZ τ) (wM a cI cZ (mHold τ p q)) := by
  refine jV_of (ws' := jG) (by decide) rfl (Nat.le_of_ble_eq_true rfl) ?_
  intro X hF hk
  show jJ l D (rmD 0) 3 X (wM a cI cZ τ) 0 [(0, .ref (a 0)), (1, .int (nI p)), (2, .int (nI q))] []
  refine jq_aload_n (pc := 0) hF 0 dM_hold_0 rfl ?_
  refine Mg_M_60 (pc := 1) hF dM_hold_1 ?_
  refine jq_iload_n (pc := 4) hF 1 dM_hold_4 rfl ?_
  refine jq_iconst (pc := 5) hF dM_hold_5 ic_1 ?_
  refine Ms_16 (pc := 6) hF (by omega) rfl dM_hold_6 ?_
  refine jq_aload_n (pc := 7) hF 0 dM_hold_7 rfl ?_
  refine Mg_M_63 (pc := 8) hF dM_hold_8 ?_
  refine jq_iload_n (pc := 11) hF 1 dM_hold_11 rfl ?_
  refine jq_aload_n (pc := 12) hF 0 dM_hold_12 rfl ?_
  refine Mg_M_63 (pc := 13) hF dM_hold_13 ?_
  refine jq_iload_n (pc := 16) hF 2 dM_hold_16 rfl ?_
  refine Ml_17 (pc := 17) hF (by omega) dM_hold_17 ?_
  refine Ms_17 (pc := 18) hF (by omega) dM_hold_18 ?_
  refine jq_aload_n (pc := 19) hF 0 dM_hold_19 rfl ?_
  refine Mg_M_66 (pc := 20) hF dM_hold_20 ?_
  refine jq_iload_n (pc := 23) hF 1 dM_hold_23 rfl ?_
  refine jq_aload_n (pc := 24) hF 0 dM_hold_24 rfl ?_
  refine Mg_M_66 (pc := 25) hF dM_hold_25 ?_
  refine jq_iload_n (pc := 28) hF 2 dM_hold_28 rfl ?_
  refine Ml_18 (pc := 29) hF (by omega) dM_hold_29 ?_
  refine Ms_18 (pc := 30) hF (by omega) dM_hold_30 ?_
  refine jq_aload_n (pc := 31) hF 0 dM_hold_31 rfl ?_
  refine Mg_M_69 (pc := 32) hF dM_hold_32 ?_
  refine jq_iload_n (pc := 35) hF 1 dM_hold_35 rfl ?_
  refine jq_aload_n (pc := 36) hF 0 dM_hold_36 rfl ?_
  refine Mg_M_69 (pc := 37) hF dM_hold_37 ?_
  refine jq_iload_n (pc := 40) hF 2 dM_hold_40 rfl ?_
  refine Ml_19 (pc := 41) hF (by omega) dM_hold_41 ?_
  refine Ms_19 (pc := 42) hF (by omega) dM_hold_42 ?_
  refine jq_aload_n (pc := 43) hF 0 dM_hold_43 rfl ?_
  refine Mg_M_72 (pc := 44) hF dM_hold_44 ?_
  refine jq_iload_n (pc := 47) hF 1 dM_hold_47 rfl ?_
  refine jq_aload_n (pc := 48) hF 0 dM_hold_48 rfl ?_
  refine Mg_M_72 (pc := 49) hF dM_hold_49 ?_
  refine jq_iload_n (pc := 52) hF 2 dM_hold_52 rfl ?_
  refine Ml_20 (pc := 53) hF (by omega) dM_hold_53 ?_
  refine Ms_20 (pc := 54) hF (by omega) dM_hold_54 ?_
  refine jq_aload_n (pc := 55) hF 0 dM_hold_55 rfl ?_
  refine Mg_M_75 (pc := 56) hF dM_hold_56 ?_
  refine jq_iload_n (pc := 59) hF 1 dM_hold_59 rfl ?_
  refine jq_aload_n (pc := 60) hF 0 dM_hold_60 rfl ?_
  refine Mg_M_75 (pc := 61) hF dM_hold_61 ?_
  refine jq_iload_n (pc := 64) hF 2 dM_hold_64 rfl ?_
  refine Ml_21 (pc := 65) hF (by omega) dM_hold_65 ?_
  refine Ms_21 (pc := 66) hF (by omega) dM_hold_66 ?_
  refine jq_aload_n (pc := 67) hF 0 dM_hold_67 rfl ?_
  refine Mg_M_78 (pc := 68) hF dM_hold_68 ?_
  refine jq_iload_n (pc := 71) hF 1 dM_hold_71 rfl ?_
  refine jq_aload_n (pc := 72) hF 0 dM_hold_72 rfl ?_
  refine Mg_M_78 (pc := 73) hF dM_hold_73 ?_
  refine jq_iload_n (pc := 76) hF 2 dM_hold_76 rfl ?_
  refine Ml_22 (pc := 77) hF (by omega) dM_hold_77 ?_
  refine Ms_22 (pc := 78) hF (by omega) (nar2 (hI.mk hq)) dM_hold_78 ?_
  exact jq_at (hk 79 _ dM_hold_79) (congrArg (wM a cI cZ) (by rfl)) rfl rfl rfl
set_option maxHeartbeats 4000000 in
set_option maxRecDepth 100000 in
theorem mM_sendMessages (l : Launch) (D : va_G) (a : Nat → Nat) (cI cZ : ClassId) (τ : jS)  (hI : mInv τ) : jV l yM_sendMessages w_M_sendMessages (rmD 4) D (jTys cI cZ) [.ref (a 0)] (wM a cI cZ τ) (wM a cI cZ (mSends τ)) := by
  refine jV_of (ws' := jG) (by decide) rfl (Nat.le_of_ble_eq_true rfl) ?_
  intro X hF hk
  show jJ l D (rmD 4) 5 X (wM a cI cZ τ) 0 [(0, .ref (a 0))] []
  refine jq_bipush (pc := 0) hF dM_sendMessages_0 bi_24 ?_
  refine jq_istore_n (pc := 2) hF [(1, .int (nI 24)), (0, .ref (a 0))] dM_sendMessages_2 (Nat.le_of_ble_eq_true rfl) rfl ?_
  have hnb := hI.nbl.1
  have hI2 := fun j => mSendN_inv hI j
  have lp3 : ∀ i, i ≤ 24 → jJ l D (rmD 4) 5 X (wM a cI cZ (forN mClr2 τ i)) 3 [(1, .int (nI (24 + i))), (0, .ref (a 0))] [] := by
    refine loop_up (fun i hi ih3 => ?_)
    refine jq_iload_n (pc := 3) hF 0 dM_sendMessages_3 rfl ?_
    refine jq_bipush (pc := 4) hF dM_sendMessages_4 bi_48 ?_
    refine jq_icmp_geN (pc := 6) hF 22 (by omega) (by omega) dM_sendMessages_6 rfl (fun h6 => ?_) (fun h6 => ?_)
    · obtain rfl : i = 24 := by omega
      refine jq_iconst (pc := 22) hF dM_sendMessages_22 ic_0 ?_
      refine jq_istore_n (pc := 23) hF [(1, .int (nI 0)), (0, .ref (a 0))] dM_sendMessages_23 (Nat.le_of_ble_eq_true rfl) rfl ?_
      have lp24 : ∀ j, j ≤ 4 * mNb τ → jJ l D (rmD 4) 5 X (wM a cI cZ (forN mSend1 (forN mClr2 τ 24) j)) 24 [(1, .int (nI j)), (0, .ref (a 0))] [] := by
        refine loop_up (fun j hi ih24 => ?_)
        refine jq_iload_n (pc := 24) hF 0 dM_sendMessages_24 rfl ?_
        refine jq_iconst (pc := 25) hF dM_sendMessages_25 ic_4 ?_
        refine jq_aload_n (pc := 26) hF 1 dM_sendMessages_26 rfl ?_
        refine Mg_M_115 (pc := 27) hF dM_sendMessages_27 ?_
        refine jq_top (nI (mNb τ)) (by rw [((fr.n mClr2_fr τ 24).wk (ks' := [16, 17, 18, 19, 20, 21, 22]) (by decide) |>.tr (fr.n mSend1_fr _ j)) 0 (by decide)]; exact hI.nbl.2) ?_
        refine jq_imulN (pc := 30) hF dM_sendMessages_30 ?_
        refine jq_icmp_geN (pc := 31) hF 173 (by omega) (by omega) dM_sendMessages_31 rfl (fun h31 => ?_) (fun h31 => ?_)
        · obtain rfl : j = 4 * mNb τ := by omega
          refine jq_iconst (pc := 173) hF dM_sendMessages_173 ic_0 ?_
          refine jq_istore_n (pc := 174) hF [(1, .int (nI 0)), (0, .ref (a 0))] dM_sendMessages_174 (Nat.le_of_ble_eq_true rfl) rfl ?_
          have lp175 : ∀ k, k ≤ 24 → jJ l D (rmD 4) 5 X (wM a cI cZ (forN mHold1 (forN mSend1 (forN mClr2 τ 24) (4 * mNb τ)) k)) 175 [(1, .int (nI k)), (0, .ref (a 0))] [] := by
            refine loop_up (fun k hi ih175 => ?_)
            refine jq_iload_n (pc := 175) hF 0 dM_sendMessages_175 rfl ?_
            refine jq_bipush (pc := 176) hF dM_sendMessages_176 bi_24 ?_
            refine jq_icmp_geN (pc := 178) hF 208 (by omega) (by omega) dM_sendMessages_178 rfl (fun h178 => ?_) (fun h178 => ?_)
            · obtain rfl : k = 24 := by omega
              exact jq_at (hk 208 _ dM_sendMessages_208) (congrArg (wM a cI cZ) (by rfl)) rfl rfl rfl
            · refine jq_aload_n (pc := 181) hF 1 dM_sendMessages_181 rfl ?_
              refine Mg_M_60 (pc := 182) hF dM_sendMessages_182 ?_
              refine jq_bipush (pc := 185) hF dM_sendMessages_185 bi_24 ?_
              refine jq_iload_n (pc := 187) hF 0 dM_sendMessages_187 rfl ?_
              refine jq_iaddN (pc := 188) hF dM_sendMessages_188 ?_
              refine Ml_16 (pc := 189) hF (by omega) dM_sendMessages_189 ?_
              refine jq_if_eq (pc := 190) hF 202 dM_sendMessages_190 rfl (fun h190 => ?_) (fun h190 => ?_)
              · refine jq_iincN (pc := 202) hF 0 [(1, .int (nI (k + 1))), (0, .ref (a 0))] dM_sendMessages_202 rfl (Nat.le_of_ble_eq_true rfl) rfl ?_
                refine jq_goto (pc := 205) hF 175 dM_sendMessages_205 rfl ?_
                refine jq_sub [(1, .int (nI (k + 1))), (0, .ref (a 0))] [0, 1] rfl ?_
                exact jq_at (ih175 (by omega)) (congrArg (wM a cI cZ) (by first | exact if_pos h190 | exact if_neg h190)) rfl rfl rfl
              · refine jq_aload_n (pc := 193) hF 1 dM_sendMessages_193 rfl ?_
                refine jq_iload_n (pc := 194) hF 0 dM_sendMessages_194 rfl ?_
                refine jq_bipush (pc := 195) hF dM_sendMessages_195 bi_24 ?_
                refine jq_iload_n (pc := 197) hF 0 dM_sendMessages_197 rfl ?_
                refine jq_iaddN (pc := 198) hF dM_sendMessages_198 ?_
                refine jq_cVV (pc := 199) hF (As := [.int (nI k), .int (nI (24 + k))]) (rest := []) (mM_hold l D a cI cZ (forN mHold1 (forN mSend1 (forN mClr2 τ 24) (4 * mNb τ)) k) (k) (24 + k) (by omega) (by omega) (mHoldN_inv hI _ k (by omega))) (jG_v mL_M_178 mI_M_hold mS_M_hold mZ_M mC_M_hold) rfl rfl rfl dd_M_hold ⟨Nat.le_of_ble_eq_true rfl, Nat.le_of_ble_eq_true rfl⟩ 0 rfl rfl rfl rfl (Nat.le_of_ble_eq_true rfl) dM_sendMessages_199 ?_
                refine jq_iincN (pc := 202) hF 0 [(1, .int (nI (k + 1))), (0, .ref (a 0))] dM_sendMessages_202 rfl (Nat.le_of_ble_eq_true rfl) rfl ?_
                refine jq_goto (pc := 205) hF 175 dM_sendMessages_205 rfl ?_
                refine jq_sub [(1, .int (nI (k + 1))), (0, .ref (a 0))] [0, 1] rfl ?_
                exact jq_at (ih175 (by omega)) (congrArg (wM a cI cZ) (by first | exact if_pos h190 | exact if_neg h190)) rfl rfl rfl
          exact jq_at (lp175 0 (by omega)) rfl rfl rfl rfl
        · refine jq_aload_n (pc := 34) hF 1 dM_sendMessages_34 rfl ?_
          refine Mg_M_23 (pc := 35) hF dM_sendMessages_35 ?_
          refine jq_iload_n (pc := 38) hF 0 dM_sendMessages_38 rfl ?_
          refine Ml_5 (pc := 39) hF (by omega) dM_sendMessages_39 ?_
          refine jq_iconst (pc := 40) hF dM_sendMessages_40 ic_1 ?_
          refine jq_icmp_ne (pc := 41) hF 167 dM_sendMessages_41 rfl (fun h41 => ?_) (fun h41 => ?_)
          · refine jq_iincN (pc := 167) hF 0 [(1, .int (nI (j + 1))), (0, .ref (a 0))] dM_sendMessages_167 rfl (Nat.le_of_ble_eq_true rfl) rfl ?_
            refine jq_goto (pc := 170) hF 24 dM_sendMessages_170 rfl ?_
            refine jq_sub [(1, .int (nI (j + 1))), (0, .ref (a 0))] [0, 1] rfl ?_
            exact jq_at (ih24 (by omega)) (congrArg (wM a cI cZ) (by exact if_pos h41)) rfl rfl rfl
          · refine jq_aload_n (pc := 44) hF 1 dM_sendMessages_44 rfl ?_
            refine jq_iload_n (pc := 45) hF 0 dM_sendMessages_45 rfl ?_
            refine jq_cVI (pc := 46) hF (As := [.int (nI j)]) (rest := []) (mM_roleOf l D a cI cZ (forN mSend1 (forN mClr2 τ 24) j) (j) (by omega) (hI2 j)) (jG_v mL_M_166 mI_M_roleOf mS_M_roleOf mZ_M mC_M_roleOf) rfl rfl rfl dd_M_roleOf ⟨Nat.le_of_ble_eq_true rfl, Nat.le_of_ble_eq_true rfl⟩ 0 rfl rfl rfl rfl (Nat.le_of_ble_eq_true rfl) dM_sendMessages_46 ?_
            refine jq_iconst (pc := 49) hF dM_sendMessages_49 ic_2 ?_
            refine jq_icmp_eq (pc := 50) hF 56 dM_sendMessages_50 rfl (fun h50 => ?_) (fun h50 => ?_)
            · refine jq_iload_n (pc := 56) hF 0 dM_sendMessages_56 rfl ?_
              refine jq_iconst (pc := 57) hF dM_sendMessages_57 ic_4 ?_
              refine jq_idivN (pc := 58) hF (by omega) (by decide) (by decide) dM_sendMessages_58 ?_
              refine jq_istore_n (pc := 59) hF [(2, .int (nI (j / 4))), (1, .int (nI j)), (0, .ref (a 0))] dM_sendMessages_59 (Nat.le_of_ble_eq_true rfl) rfl ?_
              refine jq_aload_n (pc := 60) hF 2 dM_sendMessages_60 rfl ?_
              refine jq_iload_n (pc := 61) hF 0 dM_sendMessages_61 rfl ?_
              refine jq_cVI (pc := 62) hF (As := [.int (nI (j / 4))]) (rest := []) (mM_rootPort l D a cI cZ (forN mSend1 (forN mClr2 τ 24) j) (j / 4) (by omega) (hI2 j)) (jG_v mL_M_151 mI_M_rootPort mS_M_rootPort mZ_M mC_M_rootPort) rfl rfl rfl dd_M_rootPort ⟨Nat.le_of_ble_eq_true rfl, Nat.le_of_ble_eq_true rfl⟩ 0 rfl rfl rfl rfl (Nat.le_of_ble_eq_true rfl) dM_sendMessages_62 ?_
              refine jq_istore_n (pc := 65) hF [(3, .int (mPort (forN mSend1 (forN mClr2 τ 24) j) (j / 4))), (2, .int (nI (j / 4))), (1, .int (nI j)), (0, .ref (a 0))] dM_sendMessages_65 (Nat.le_of_ble_eq_true rfl) rfl ?_
              refine jq_bipush (pc := 66) hF dM_sendMessages_66 bi_24 ?_
              refine jq_aload_n (pc := 68) hF 3 dM_sendMessages_68 rfl ?_
              refine jq_iload_n (pc := 69) hF 2 dM_sendMessages_69 rfl ?_
              refine jq_cVI (pc := 70) hF (As := [.int (nI j)]) (rest := [.int (nI 24)]) (mM_other l D a cI cZ (forN mSend1 (forN mClr2 τ 24) j) (j) (by omega) (hI2 j)) (jG_v mL_M_172 mI_M_other mS_M_other mZ_M mC_M_other) rfl rfl rfl dd_M_other ⟨Nat.le_of_ble_eq_true rfl, Nat.le_of_ble_eq_true rfl⟩ 0 rfl rfl rfl rfl (Nat.le_of_ble_eq_true rfl) dM_sendMessages_70 ?_
              refine jq_top (nI ((mOther (forN mSend1 (forN mClr2 τ 24) j) j).toNatClampNeg)) (((mOther_ok (hI2 j) (by omega)).cl (by decide)).2) ?_
              refine jq_iaddN (pc := 73) hF dM_sendMessages_73 ?_
              obtain ⟨to, hto⟩ : ∃ x, x = 24 + (mOther (forN mSend1 (forN mClr2 τ 24) j) j).toNatClampNeg := ⟨_, rfl⟩
              have hto2 := ((mOther_ok (hI2 j) (p := j) (by omega)).cl (by decide)).1
              have g1 : mInv (mS1 (forN mSend1 (forN mClr2 τ 24) j) to) := (hI2 j).u (by decide)
              have g2 : mInv (mS2 (mS1 (forN mSend1 (forN mClr2 τ 24) j) to) (j / 4) to) := g1.u (by decide)
              have g3 : mInv (mS3 (mS2 (mS1 (forN mSend1 (forN mClr2 τ 24) j) to) (j / 4) to) (j / 4) to) := g2.u (by decide)
              have g4 : mInv (mS4 (mS3 (mS2 (mS1 (forN mSend1 (forN mClr2 τ 24) j) to) (j / 4) to) (j / 4) to) (j / 4) to) := g3.u (by decide)
              have g5 : mInv (mS5 (mS4 (mS3 (mS2 (mS1 (forN mSend1 (forN mClr2 τ 24) j) to) (j / 4) to) (j / 4) to) (j / 4) to) j to) := g4.u (by decide)
              have g6 : mInv (mS6 (mS5 (mS4 (mS3 (mS2 (mS1 (forN mSend1 (forN mClr2 τ 24) j) to) (j / 4) to) (j / 4) to) (j / 4) to) j to) (j / 4) to (mPort (forN mSend1 (forN mClr2 τ 24) j) (j / 4))) := g5.u (by decide)
              refine jq_top (nI (to)) (by rw [hto]) ?_
              refine jq_istore (pc := 74) hF [(4, .int (nI to)), (3, .int (mPort (forN mSend1 (forN mClr2 τ 24) j) (j / 4))), (2, .int (nI (j / 4))), (1, .int (nI j)), (0, .ref (a 0))] dM_sendMessages_74 (Nat.le_of_ble_eq_true rfl) rfl ?_
              refine jq_aload_n (pc := 76) hF 4 dM_sendMessages_76 rfl ?_
              refine Mg_M_60 (pc := 77) hF dM_sendMessages_77 ?_
              refine jq_iload (pc := 80) hF 0 dM_sendMessages_80 rfl ?_
              refine jq_iconst (pc := 82) hF dM_sendMessages_82 ic_1 ?_
              refine Ms_16 (pc := 83) hF (by omega) rfl dM_sendMessages_83 ?_
              refine jq_w (wM a cI cZ (mS1 (forN mSend1 (forN mClr2 τ 24) j) to)) (congrArg (wM a cI cZ) (by rfl)) ?_
              refine jq_aload_n (pc := 84) hF 4 dM_sendMessages_84 rfl ?_
              refine Mg_M_63 (pc := 85) hF dM_sendMessages_85 ?_
              refine jq_iload (pc := 88) hF 0 dM_sendMessages_88 rfl ?_
              refine jq_aload_n (pc := 90) hF 4 dM_sendMessages_90 rfl ?_
              refine jq_iload_n (pc := 91) hF 2 dM_sendMessages_91 rfl ?_
              refine jq_cVI (pc := 92) hF (As := [.int (nI (j / 4))]) (rest := [.int (nI to), .ref (a 17)]) (mM_rootOf l D a cI cZ (mS1 (forN mSend1 (forN mClr2 τ 24) j) to) (j / 4) (by omega) g1) (jG_v mL_M_160 mI_M_rootOf mS_M_rootOf mZ_M mC_M_rootOf) rfl rfl rfl dd_M_rootOf ⟨Nat.le_of_ble_eq_true rfl, Nat.le_of_ble_eq_true rfl⟩ 0 rfl rfl rfl rfl (Nat.le_of_ble_eq_true rfl) dM_sendMessages_92 ?_
              refine Ms_17 (pc := 95) hF (by omega) dM_sendMessages_95 ?_
              refine jq_w (wM a cI cZ (mS2 (mS1 (forN mSend1 (forN mClr2 τ 24) j) to) (j / 4) to)) (congrArg (wM a cI cZ) (by rfl)) ?_
              refine jq_aload_n (pc := 96) hF 4 dM_sendMessages_96 rfl ?_
              refine Mg_M_66 (pc := 97) hF dM_sendMessages_97 ?_
              refine jq_iload (pc := 100) hF 0 dM_sendMessages_100 rfl ?_
              refine jq_aload_n (pc := 102) hF 4 dM_sendMessages_102 rfl ?_
              refine jq_iload_n (pc := 103) hF 2 dM_sendMessages_103 rfl ?_
              refine jq_cVI (pc := 104) hF (As := [.int (nI (j / 4))]) (rest := [.int (nI to), .ref (a 18)]) (mM_distance l D a cI cZ (mS2 (mS1 (forN mSend1 (forN mClr2 τ 24) j) to) (j / 4) to) (j / 4) (by omega) g2) (jG_v mL_M_163 mI_M_distance mS_M_distance mZ_M mC_M_distance) rfl rfl rfl dd_M_distance ⟨Nat.le_of_ble_eq_true rfl, Nat.le_of_ble_eq_true rfl⟩ 0 rfl rfl rfl rfl (Nat.le_of_ble_eq_true rfl) dM_sendMessages_104 ?_
              refine Ms_18 (pc := 107) hF (by omega) dM_sendMessages_107 ?_
              refine jq_w (wM a cI cZ (mS3 (mS2 (mS1 (forN mSend1 (forN mClr2 τ 24) j) to) (j / 4) to) (j / 4) to)) (congrArg (wM a cI cZ) (by rfl)) ?_
              refine jq_aload_n (pc := 108) hF 4 dM_sendMessages_108 rfl ?_
              refine Mg_M_69 (pc := 109) hF dM_sendMessages_109 ?_
              refine jq_iload (pc := 112) hF 0 dM_sendMessages_112 rfl ?_
              refine jq_aload_n (pc := 114) hF 4 dM_sendMessages_114 rfl ?_
              refine jq_iload_n (pc := 115) hF 2 dM_sendMessages_115 rfl ?_
              refine jq_cVI (pc := 116) hF (As := [.int (nI (j / 4))]) (rest := [.int (nI to), .ref (a 19)]) (mM_id l D a cI cZ (mS3 (mS2 (mS1 (forN mSend1 (forN mClr2 τ 24) j) to) (j / 4) to) (j / 4) to) (j / 4) (by omega)) (jG_v mL_M_143 mI_M_id mS_M_id mZ_M mC_M_id) rfl rfl rfl dd_M_id ⟨Nat.le_of_ble_eq_true rfl, Nat.le_of_ble_eq_true rfl⟩ 0 rfl rfl rfl rfl (Nat.le_of_ble_eq_true rfl) dM_sendMessages_116 ?_
              refine Ms_19 (pc := 119) hF (by omega) dM_sendMessages_119 ?_
              refine jq_w (wM a cI cZ (mS4 (mS3 (mS2 (mS1 (forN mSend1 (forN mClr2 τ 24) j) to) (j / 4) to) (j / 4) to) (j / 4) to)) (congrArg (wM a cI cZ) (by rfl)) ?_
              refine jq_aload_n (pc := 120) hF 4 dM_sendMessages_120 rfl ?_
              refine Mg_M_72 (pc := 121) hF dM_sendMessages_121 ?_
              refine jq_iload (pc := 124) hF 0 dM_sendMessages_124 rfl ?_
              refine jq_iload_n (pc := 126) hF 3 dM_sendMessages_126 rfl ?_
              refine jq_iconst (pc := 127) hF dM_sendMessages_127 ic_4 ?_
              refine jq_iremN (pc := 128) hF (by omega) (by decide) (by decide) dM_sendMessages_128 ?_
              refine Ms_20 (pc := 129) hF (by omega) dM_sendMessages_129 ?_
              refine jq_w (wM a cI cZ (mS5 (mS4 (mS3 (mS2 (mS1 (forN mSend1 (forN mClr2 τ 24) j) to) (j / 4) to) (j / 4) to) (j / 4) to) j to)) (congrArg (wM a cI cZ) (by rfl)) ?_
              refine jq_aload_n (pc := 130) hF 4 dM_sendMessages_130 rfl ?_
              refine Mg_M_75 (pc := 131) hF dM_sendMessages_131 ?_
              refine jq_iload (pc := 134) hF 0 dM_sendMessages_134 rfl ?_
              refine jq_iload_n (pc := 136) hF 1 dM_sendMessages_136 rfl ?_
              have j154 : jJ l D (rmD 4) 5 X (wM a cI cZ (mS5 (mS4 (mS3 (mS2 (mS1 (forN mSend1 (forN mClr2 τ 24) j) to) (j / 4) to) (j / 4) to) (j / 4) to) j to)) 154 [(4, .int (nI to)), (3, .int (mPort (forN mSend1 (forN mClr2 τ 24) j) (j / 4))), (2, .int (nI (j / 4))), (1, .int (nI j)), (0, .ref (a 0))] [.int (if 0 ≤ mPort (forN mSend1 (forN mClr2 τ 24) j) (j / 4) then (mS5 (mS4 (mS3 (mS2 (mS1 (forN mSend1 (forN mClr2 τ 24) j) to) (j / 4) to) (j / 4) to) (j / 4) to) j to) 21 ((nI (4 * (j / 4))) + (mPort (forN mSend1 (forN mClr2 τ 24) j) (j / 4))).toNatClampNeg else nI (0)), .int (nI to), .ref (a 21)] := by
                refine Ms_21 (pc := 154) hF (by omega) dM_sendMessages_154 ?_
                refine jq_w (wM a cI cZ (mS6 (mS5 (mS4 (mS3 (mS2 (mS1 (forN mSend1 (forN mClr2 τ 24) j) to) (j / 4) to) (j / 4) to) (j / 4) to) j to) (j / 4) to (mPort (forN mSend1 (forN mClr2 τ 24) j) (j / 4)))) (congrArg (wM a cI cZ) (by rfl)) ?_
                refine jq_aload_n (pc := 155) hF 4 dM_sendMessages_155 rfl ?_
                refine Mg_M_78 (pc := 156) hF dM_sendMessages_156 ?_
                refine jq_iload (pc := 159) hF 0 dM_sendMessages_159 rfl ?_
                refine jq_aload_n (pc := 161) hF 4 dM_sendMessages_161 rfl ?_
                refine jq_iload_n (pc := 162) hF 2 dM_sendMessages_162 rfl ?_
                refine jq_cVI (pc := 163) hF (As := [.int (nI (j / 4))]) (rest := [.int (nI to), .ref (a 22)]) (mM_marked l D a cI cZ (mS6 (mS5 (mS4 (mS3 (mS2 (mS1 (forN mSend1 (forN mClr2 τ 24) j) to) (j / 4) to) (j / 4) to) (j / 4) to) j to) (j / 4) to (mPort (forN mSend1 (forN mClr2 τ 24) j) (j / 4))) (j / 4) (by omega) g6) (jG_v mL_M_175 mI_M_marked mS_M_marked mZ_M mC_M_marked) rfl rfl rfl dd_M_marked ⟨Nat.le_of_ble_eq_true rfl, Nat.le_of_ble_eq_true rfl⟩ 0 rfl rfl rfl rfl (Nat.le_of_ble_eq_true rfl) dM_sendMessages_163 ?_
                refine Ms_22 (pc := 166) hF (by omega) (bI_nar _) dM_sendMessages_166 ?_
                refine jq_iincN (pc := 167) hF 3 [(1, .int (nI (j + 1))), (4, .int (nI to)), (3, .int (mPort (forN mSend1 (forN mClr2 τ 24) j) (j / 4))), (2, .int (nI (j / 4))), (0, .ref (a 0))] dM_sendMessages_167 rfl (Nat.le_of_ble_eq_true rfl) rfl ?_
                refine jq_goto (pc := 170) hF 24 dM_sendMessages_170 rfl ?_
                refine jq_sub [(1, .int (nI (j + 1))), (0, .ref (a 0))] [0, 4] rfl ?_
                exact jq_at (ih24 (by omega)) (congrArg (wM a cI cZ) (by subst hto; exact (if_neg (fun e => e h41)).trans (if_pos h50))) rfl rfl rfl
              refine jq_if_ge (pc := 137) hF 144 dM_sendMessages_137 rfl (fun h137 => ?_) (fun h137 => ?_)
              · refine jq_aload_n (pc := 144) hF 4 dM_sendMessages_144 rfl ?_
                refine Mg_M_75 (pc := 145) hF dM_sendMessages_145 ?_
                refine jq_iconst (pc := 148) hF dM_sendMessages_148 ic_4 ?_
                refine jq_iload_n (pc := 149) hF 2 dM_sendMessages_149 rfl ?_
                refine jq_imulN (pc := 150) hF dM_sendMessages_150 ?_
                refine jq_iload_n (pc := 151) hF 1 dM_sendMessages_151 rfl ?_
                refine jq_iadd (pc := 152) hF dM_sendMessages_152 ?_
                refine ML_21 (pc := 153) hF (mPort_in h137 (by omega) (by decide) (by decide)) dM_sendMessages_153 ?_
                exact jq_at j154 rfl rfl rfl (by rw [if_pos h137])
              · refine jq_iconst (pc := 140) hF dM_sendMessages_140 ic_0 ?_
                refine jq_goto (pc := 141) hF 154 dM_sendMessages_141 rfl ?_
                exact jq_at j154 rfl rfl rfl (by rw [if_neg h137])
            · refine jq_goto (pc := 53) hF 167 dM_sendMessages_53 rfl ?_
              refine jq_iincN (pc := 167) hF 0 [(1, .int (nI (j + 1))), (0, .ref (a 0))] dM_sendMessages_167 rfl (Nat.le_of_ble_eq_true rfl) rfl ?_
              refine jq_goto (pc := 170) hF 24 dM_sendMessages_170 rfl ?_
              refine jq_sub [(1, .int (nI (j + 1))), (0, .ref (a 0))] [0, 1] rfl ?_
              exact jq_at (ih24 (by omega)) (congrArg (wM a cI cZ) (by exact (if_neg (fun e => e h41)).trans (if_neg h50))) rfl rfl rfl
      exact jq_at (lp24 0 (by omega)) rfl rfl rfl rfl
    · refine jq_aload_n (pc := 9) hF 1 dM_sendMessages_9 rfl ?_
      refine Mg_M_60 (pc := 10) hF dM_sendMessages_10 ?_
      refine jq_iload_n (pc := 13) hF 0 dM_sendMessages_13 rfl ?_
      refine jq_iconst (pc := 14) hF dM_sendMessages_14 ic_0 ?_
      refine Ms_16 (pc := 15) hF (by omega) rfl dM_sendMessages_15 ?_
      refine jq_iincN (pc := 16) hF 0 [(1, .int (nI (24 + i + 1))), (0, .ref (a 0))] dM_sendMessages_16 rfl (Nat.le_of_ble_eq_true rfl) rfl ?_
      refine jq_goto (pc := 19) hF 3 dM_sendMessages_19 rfl ?_
      refine jq_sub [(1, .int (nI (24 + i + 1))), (0, .ref (a 0))] [0, 1] rfl ?_
      exact jq_at (ih3 (by omega)) rfl rfl rfl rfl
  exact jq_at (lp3 0 (by omega)) rfl rfl rfl rfl
set_option maxHeartbeats 4000000 in
set_option maxRecDepth 100000 in
theorem mM_forget (l : Launch) (D : va_G) (a : Nat → Nat) (cI cZ : ClassId) (τ : jS)  (hI : mInv τ) : jV l yM_forget w_M_forget (rmD 3) D (jTys cI cZ) [.ref (a 0)] (wM a cI cZ τ) (wM a cI cZ (mOld τ)) := by
  refine jV_of (ws' := jG) (by decide) rfl (Nat.le_of_ble_eq_true rfl) ?_
  intro X hF hk
  show jJ l D (rmD 3) 4 X (wM a cI cZ τ) 0 [(0, .ref (a 0))] []
  refine jq_iconst (pc := 0) hF dM_forget_0 ic_0 ?_
  refine jq_istore_n (pc := 1) hF [(1, .int (nI 0)), (0, .ref (a 0))] dM_forget_1 (Nat.le_of_ble_eq_true rfl) rfl ?_
  have hnb := hI.nbl.1
  have hI1 : ∀ i, mInv (forN mOld1 τ i) := fun i => hI.of_fr (fr.n mOld1_fr _ i) (by decide)
  have lp2 : ∀ i, i ≤ mNb τ → jJ l D (rmD 3) 4 X (wM a cI cZ (forN mOld1 τ i)) 2 [(1, .int (nI i)), (0, .ref (a 0))] [] := by
    refine loop_up (fun i hi ih2 => ?_)
    refine jq_iload_n (pc := 2) hF 0 dM_forget_2 rfl ?_
    refine jq_aload_n (pc := 3) hF 1 dM_forget_3 rfl ?_
    refine Mg_M_115 (pc := 4) hF dM_forget_4 ?_
    refine jq_top (nI (mNb τ)) (by rw [(fr.n mOld1_fr τ i) 0 (by decide)]; exact hI.nbl.2) ?_
    refine jq_icmp_geN (pc := 7) hF 91 (by omega) (by omega) dM_forget_7 rfl (fun h7 => ?_) (fun h7 => ?_)
    · obtain rfl : i = mNb τ := by omega
      exact jq_at (hk 91 _ dM_forget_91) (congrArg (wM a cI cZ) (by rfl)) rfl rfl rfl
    · have j40 : jJ l D (rmD 3) 4 X (wM a cI cZ (forN mOld1 τ i)) 40 [(1, .int (nI i)), (0, .ref (a 0))] [.int (mMost (forN mOld1 τ i) i)] := by
        refine jq_istore_n (pc := 40) hF [(2, .int (mMost (forN mOld1 τ i) i)), (1, .int (nI i)), (0, .ref (a 0))] dM_forget_40 (Nat.le_of_ble_eq_true rfl) rfl ?_
        refine jq_bipush (pc := 41) hF dM_forget_41 bi_28 ?_
        refine jq_iload_n (pc := 43) hF 1 dM_forget_43 rfl ?_
        refine jq_imulN (pc := 44) hF dM_forget_44 ?_
        refine jq_istore_n (pc := 45) hF [(3, .int (nI (28 * i))), (2, .int (mMost (forN mOld1 τ i) i)), (1, .int (nI i)), (0, .ref (a 0))] dM_forget_45 (Nat.le_of_ble_eq_true rfl) rfl ?_
        have lp46 : ∀ e, e ≤ 28 → jJ l D (rmD 3) 4 X (wM a cI cZ (forN (mForget1 i (mMost (forN mOld1 τ i) i)) (forN mOld1 τ i) e)) 46 [(3, .int (nI (28 * i + e))), (2, .int (mMost (forN mOld1 τ i) i)), (1, .int (nI i)), (0, .ref (a 0))] [] := by
          refine loop_up (fun e hi ih46 => ?_)
          refine jq_iload_n (pc := 46) hF 0 dM_forget_46 rfl ?_
          refine jq_bipush (pc := 47) hF dM_forget_47 bi_28 ?_
          refine jq_iload_n (pc := 49) hF 2 dM_forget_49 rfl ?_
          refine jq_imulN (pc := 50) hF dM_forget_50 ?_
          refine jq_bipush (pc := 51) hF dM_forget_51 bi_28 ?_
          refine jq_iaddN (pc := 53) hF dM_forget_53 ?_
          refine jq_icmp_geN (pc := 54) hF 85 (by omega) (by omega) dM_forget_54 rfl (fun h54 => ?_) (fun h54 => ?_)
          · obtain rfl : e = 28 := by omega
            refine jq_w (wM a cI cZ (mOld1 i (forN mOld1 τ i))) (congrArg (wM a cI cZ) (by rfl)) ?_
            refine jq_iincN (pc := 85) hF 2 [(1, .int (nI (i + 1))), (3, .int (nI (28 * i + 28))), (2, .int (mMost (forN mOld1 τ i) i)), (0, .ref (a 0))] dM_forget_85 rfl (Nat.le_of_ble_eq_true rfl) rfl ?_
            refine jq_goto (pc := 88) hF 2 dM_forget_88 rfl ?_
            refine jq_sub [(1, .int (nI (i + 1))), (0, .ref (a 0))] [0, 3] rfl ?_
            exact jq_at (ih2 (by omega)) rfl rfl rfl rfl
          · refine jq_aload_n (pc := 57) hF 3 dM_forget_57 rfl ?_
            refine Mg_M_154 (pc := 58) hF dM_forget_58 ?_
            refine jq_aload_n (pc := 61) hF 3 dM_forget_61 rfl ?_
            refine Mg_M_93 (pc := 62) hF dM_forget_62 ?_
            refine jq_iload_n (pc := 65) hF 0 dM_forget_65 rfl ?_
            refine Ml_27 (pc := 66) hF (by omega) dM_forget_66 ?_
            refine jq_isub (pc := 67) hF dM_forget_67 ?_
            refine jq_iload_n (pc := 68) hF 1 dM_forget_68 rfl ?_
            refine jq_icmp_lt (pc := 69) hF 79 dM_forget_69 rfl (fun h69 => ?_) (fun h69 => ?_)
            · refine jq_iincN (pc := 79) hF 0 [(3, .int (nI (28 * i + e + 1))), (2, .int (mMost (forN mOld1 τ i) i)), (1, .int (nI i)), (0, .ref (a 0))] dM_forget_79 rfl (Nat.le_of_ble_eq_true rfl) rfl ?_
              refine jq_goto (pc := 82) hF 46 dM_forget_82 rfl ?_
              refine jq_sub [(3, .int (nI (28 * i + e + 1))), (2, .int (mMost (forN mOld1 τ i) i)), (1, .int (nI i)), (0, .ref (a 0))] [0, 1, 2, 3] rfl ?_
              exact jq_at (ih46 (by omega)) (congrArg (wM a cI cZ) (by first | exact if_pos h69 | exact if_neg h69)) rfl rfl rfl
            · refine jq_aload_n (pc := 72) hF 3 dM_forget_72 rfl ?_
              refine Mg_M_90 (pc := 73) hF dM_forget_73 ?_
              refine jq_iload_n (pc := 76) hF 0 dM_forget_76 rfl ?_
              refine jq_iconst (pc := 77) hF dM_forget_77 ic_0 ?_
              refine Ms_26 (pc := 78) hF (by omega) dM_forget_78 ?_
              refine jq_iincN (pc := 79) hF 0 [(3, .int (nI (28 * i + e + 1))), (2, .int (mMost (forN mOld1 τ i) i)), (1, .int (nI i)), (0, .ref (a 0))] dM_forget_79 rfl (Nat.le_of_ble_eq_true rfl) rfl ?_
              refine jq_goto (pc := 82) hF 46 dM_forget_82 rfl ?_
              refine jq_sub [(3, .int (nI (28 * i + e + 1))), (2, .int (mMost (forN mOld1 τ i) i)), (1, .int (nI i)), (0, .ref (a 0))] [0, 1, 2, 3] rfl ?_
              exact jq_at (ih46 (by omega)) (congrArg (wM a cI cZ) (by first | exact if_pos h69 | exact if_neg h69)) rfl rfl rfl
        exact jq_at (lp46 0 (by omega)) rfl rfl rfl rfl
      refine jq_aload_n (pc := 10) hF 1 dM_forget_10 rfl ?_
      refine jq_iload_n (pc := 11) hF 0 dM_forget_11 rfl ?_
      refine jq_cVI (pc := 12) hF (As := [.int (nI i)]) (rest := []) (mM_marked l D a cI cZ (forN mOld1 τ i) (i) (by omega) (hI1 i)) (jG_v mL_M_175 mI_M_marked mS_M_marked mZ_M mC_M_marked) rfl rfl rfl dd_M_marked ⟨Nat.le_of_ble_eq_true rfl, Nat.le_of_ble_eq_true rfl⟩ 0 rfl rfl rfl rfl (Nat.le_of_ble_eq_true rfl) dM_forget_12 ?_
      refine jq_if_eqB (pc := 15) hF 36 dM_forget_15 rfl (fun h15 => ?_) (fun h15 => ?_)
      · refine jq_aload_n (pc := 36) hF 1 dM_forget_36 rfl ?_
        refine Mg_M_112 (pc := 37) hF dM_forget_37 ?_
        exact jq_at j40 rfl rfl rfl (by simp [mMost, h7, h15])
      · refine jq_aload_n (pc := 18) hF 1 dM_forget_18 rfl ?_
        refine Mg_M_109 (pc := 19) hF dM_forget_19 ?_
        refine jq_aload_n (pc := 22) hF 1 dM_forget_22 rfl ?_
        refine Mg_M_112 (pc := 23) hF dM_forget_23 ?_
        refine jq_icmp_ge (pc := 26) hF 36 dM_forget_26 rfl (fun h26 => ?_) (fun h26 => ?_)
        · refine jq_aload_n (pc := 36) hF 1 dM_forget_36 rfl ?_
          refine Mg_M_112 (pc := 37) hF dM_forget_37 ?_
          exact jq_at j40 rfl rfl rfl (by simp [mMost, h7, h15, h26])
        · refine jq_aload_n (pc := 29) hF 1 dM_forget_29 rfl ?_
          refine Mg_M_109 (pc := 30) hF dM_forget_30 ?_
          refine jq_goto (pc := 33) hF 40 dM_forget_33 rfl ?_
          exact jq_at j40 rfl rfl rfl (by simp [mMost, h7, h15, h26])
  exact jq_at (lp2 0 (by omega)) rfl rfl rfl rfl
set_option maxHeartbeats 4000000 in
set_option maxRecDepth 100000 in
theorem mM_tick (l : Launch) (D : va_G) (a : Nat → Nat) (cI cZ : ClassId) (τ : jS) (n : Int32) (hI : mInv τ) : jI l yM_tick w_M_tick (rmD 6) D (jTys cI cZ) [.ref (a 0), .int (n)] (wM a cI cZ τ) (wM a cI cZ (if mTickB n = true then mTicks τ (n).toNatClampNeg else τ)) (if mTickB n = true then (mTicks τ (n).toNatClampNeg) 0 3 else -1) := by
  refine jI_of (ws' := jG) rfl (by decide) rfl (Nat.le_of_ble_eq_true rfl) ?_
  intro X hF hk
  show jJ l D (rmD 6) 3 X (wM a cI cZ τ) 0 [(0, .ref (a 0)), (1, .int (n))] []
  refine jq_iload_n (pc := 0) hF 1 dM_tick_0 rfl ?_
  refine jq_if_lt (pc := 1) hF 10 dM_tick_1 rfl (fun h1 => ?_) (fun h1 => ?_)
  · refine jq_iconst (pc := 10) hF dM_tick_10 ic_m1 ?_
    exact jq_at (hk 11 _ dM_tick_11) (congrArg (wM a cI cZ) (by exact if_neg (by simp [mTickB, h1]))) rfl rfl (congrArg (fun z => [Value.int z]) (by exact if_neg (by simp [mTickB, h1])))
  · refine jq_iload_n (pc := 4) hF 1 dM_tick_4 rfl ?_
    refine jq_bipush (pc := 5) hF dM_tick_5 bi_60 ?_
    refine jq_icmp_le (pc := 7) hF 12 dM_tick_7 rfl (fun h7 => ?_) (fun h7 => ?_)
    · have hB : mTickB n = true := by simp [mTickB, h1, h7]
      obtain ⟨m, hm, rfl⟩ := nI_of2 (M := nI 60) (n := 60) (nI_toInt (by decide)) h1 h7
      refine jq_iconst (pc := 12) hF dM_tick_12 ic_0 ?_
      refine jq_istore_n (pc := 13) hF [(2, .int (nI 0)), (0, .ref (a 0)), (1, .int (nI m))] dM_tick_13 (Nat.le_of_ble_eq_true rfl) rfl ?_
      have lp14 : ∀ i, i ≤ m → jJ l D (rmD 6) 3 X (wM a cI cZ (mTicks τ i)) 14 [(2, .int (nI i)), (0, .ref (a 0)), (1, .int (nI m))] [] := by
        refine loop_up (fun i hi ih14 => ?_)
        have hIi := mTicks_inv hI i
        have g0 : mInv (sU (mTicks τ i) 0 3 ((mTicks τ i) 0 3 + nI 1)) := hIi.u0 (by decide) (by decide) (by decide) (by decide)
        have g1 := mAge_inv g0
        have g2 := mPass_inv g1
        have g3 := mSends_inv g2
        have g4 := mLook_inv g3 true
        refine jq_iload_n (pc := 14) hF 0 dM_tick_14 rfl ?_
        refine jq_iload_n (pc := 15) hF 2 dM_tick_15 rfl ?_
        refine jq_icmp_geN (pc := 16) hF 56 (by omega) (by omega) dM_tick_16 rfl (fun h16 => ?_) (fun h16 => ?_)
        · obtain rfl : i = m := by omega
          refine jq_aload_n (pc := 56) hF 1 dM_tick_56 rfl ?_
          refine Mg_M_154 (pc := 57) hF dM_tick_57 ?_
          exact jq_at (hk 60 _ dM_tick_60) (congrArg (wM a cI cZ) (by rw [if_pos hB, nI_clamp (by omega)])) rfl rfl (congrArg (fun z => [Value.int z]) (by rw [if_pos hB, nI_clamp (by omega)]))
        · refine jq_aload_n (pc := 19) hF 1 dM_tick_19 rfl ?_
          refine jq_dup (pc := 20) hF dM_tick_20 rfl ?_
          refine Mg_M_154 (pc := 21) hF dM_tick_21 ?_
          refine jq_iconst (pc := 24) hF dM_tick_24 ic_1 ?_
          refine jq_iadd (pc := 25) hF dM_tick_25 ?_
          refine Mp_M_154 (pc := 26) hF dM_tick_26 ?_
          refine jq_aload_n (pc := 29) hF 1 dM_tick_29 rfl ?_
          refine jq_cVV (pc := 30) hF (As := []) (rest := []) (mM_age l D a cI cZ (sU (mTicks τ i) 0 3 (((mTicks τ i) 0 3) + (nI (1))))  ) (jG_v mL_M_182 mI_M_age mS_M_age mZ_M mC_M_age) rfl rfl rfl dd_M_age ⟨Nat.le_of_ble_eq_true rfl, Nat.le_of_ble_eq_true rfl⟩ 0 rfl rfl rfl rfl (Nat.le_of_ble_eq_true rfl) dM_tick_30 ?_
          refine jq_aload_n (pc := 33) hF 1 dM_tick_33 rfl ?_
          refine jq_cVV (pc := 34) hF (As := []) (rest := []) (mM_passNotices l D a cI cZ (mAge (sU (mTicks τ i) 0 3 (((mTicks τ i) 0 3) + (nI (1)))))  g1) (jG_v mL_M_185 mI_M_passNotices mS_M_passNotices mZ_M mC_M_passNotices) rfl rfl rfl dd_M_passNotices ⟨Nat.le_of_ble_eq_true rfl, Nat.le_of_ble_eq_true rfl⟩ 0 rfl rfl rfl rfl (Nat.le_of_ble_eq_true rfl) dM_tick_34 ?_
          refine jq_aload_n (pc := 37) hF 1 dM_tick_37 rfl ?_
          refine jq_cVV (pc := 38) hF (As := []) (rest := []) (mM_sendMessages l D a cI cZ (mPass (mAge (sU (mTicks τ i) 0 3 (((mTicks τ i) 0 3) + (nI (1))))))  g2) (jG_v mL_M_188 mI_M_sendMessages mS_M_sendMessages mZ_M mC_M_sendMessages) rfl rfl rfl dd_M_sendMessages ⟨Nat.le_of_ble_eq_true rfl, Nat.le_of_ble_eq_true rfl⟩ 0 rfl rfl rfl rfl (Nat.le_of_ble_eq_true rfl) dM_tick_38 ?_
          refine jq_aload_n (pc := 41) hF 1 dM_tick_41 rfl ?_
          refine jq_iconst (pc := 42) hF dM_tick_42 ic_1 ?_
          refine jq_cVV (pc := 43) hF (As := [.int (nI 1)]) (rest := []) (mM_look l D a cI cZ (mSends (mPass (mAge (sU (mTicks τ i) 0 3 (((mTicks τ i) 0 3) + (nI (1))))))) (true) g3) (jG_v mL_M_122 mI_M_look mS_M_look mZ_M mC_M_look) rfl rfl rfl dd_M_look ⟨Nat.le_of_ble_eq_true rfl, Nat.le_of_ble_eq_true rfl⟩ 0 rfl rfl rfl rfl (Nat.le_of_ble_eq_true rfl) dM_tick_43 ?_
          refine jq_aload_n (pc := 46) hF 1 dM_tick_46 rfl ?_
          refine jq_cVV (pc := 47) hF (As := []) (rest := []) (mM_forget l D a cI cZ (mLook (mSends (mPass (mAge (sU (mTicks τ i) 0 3 (((mTicks τ i) 0 3) + (nI (1))))))) (true))  g4) (jG_v mL_M_191 mI_M_forget mS_M_forget mZ_M mC_M_forget) rfl rfl rfl dd_M_forget ⟨Nat.le_of_ble_eq_true rfl, Nat.le_of_ble_eq_true rfl⟩ 0 rfl rfl rfl rfl (Nat.le_of_ble_eq_true rfl) dM_tick_47 ?_
          refine jq_iincN (pc := 50) hF 0 [(2, .int (nI (i + 1))), (0, .ref (a 0)), (1, .int (nI m))] dM_tick_50 rfl (Nat.le_of_ble_eq_true rfl) rfl ?_
          refine jq_goto (pc := 53) hF 14 dM_tick_53 rfl ?_
          refine jq_sub [(2, .int (nI (i + 1))), (0, .ref (a 0)), (1, .int (nI m))] [0, 1, 2] rfl ?_
          exact jq_at (ih14 (by omega)) (congrArg (wM a cI cZ) (by exact mTicks_s τ i)) rfl rfl rfl
      exact jq_at (lp14 0 (by omega)) rfl rfl rfl rfl
    · refine jq_iconst (pc := 10) hF dM_tick_10 ic_m1 ?_
      exact jq_at (hk 11 _ dM_tick_11) (congrArg (wM a cI cZ) (by exact if_neg (by simp [mTickB, h1, h7]))) rfl rfl (congrArg (fun z => [Value.int z]) (by exact if_neg (by simp [mTickB, h1, h7])))
