/-! the reference's public methods (wip/whole/gen/specM3.py) -/
def mBridgeB (τ : jS) (pr : Int32) : Bool := !decide (τ 0 4 = nI 6) && !decide (pr < 0) && decide (pr ≤ nI 7)
def mAddB (τ : jS) (pr : Int32) : jS := sU (sU τ 1 (τ 0 4).toNatClampNeg pr) 0 4 (τ 0 4 + nI 1)
def mWireB (τ : jS) (p q c : Int32) : Bool := !decide (τ 0 5 = nI 10) && mIsFree τ p && mIsFree τ q && !decide (p = q) && !decide (c < nI 1) && decide (c ≤ nI 9)
def mAddW (τ : jS) (p q c : Int32) : jS :=
  sU (mPut (mPut (sU (sU (sU τ 10 (τ 0 5).toNatClampNeg p) 11 (τ 0 5).toNatClampNeg q) 12 (τ 0 5).toNatClampNeg c) p (nI 1) (τ 0 5)) q (nI 1) (τ 0 5)) 0 5 (τ 0 5 + nI 1)
def mHostB (τ : jS) (p s : Int32) : Bool := !decide (τ 0 6 = nI 6) && mIsFree τ p && !decide (s < 0) && decide (s ≤ nI 3)
def mAddH (τ : jS) (p s : Int32) : jS := sU (mPut (sU (sU τ 14 (τ 0 6).toNatClampNeg p) 15 (τ 0 6).toNatClampNeg s) p (nI 2) (τ 0 6)) 0 6 (τ 0 6 + nI 1)
def mRouterB (τ : jS) (p : Int32) : Bool := !decide (0 ≤ τ 0 7) && mIsFree τ p
def mAddR (τ : jS) (p : Int32) : jS := mPut (sU τ 0 7 p) p (nI 3) (nI 0)
def mAccessB (τ : jS) (p n : Int32) : Bool := mIsPlace τ p && !decide (n < 0) && decide (n ≤ nI 3)
def mAccess (τ : jS) (p n : Int32) : jS := sU (sU (sU τ 7 p.toNatClampNeg (nI 0)) 8 p.toNatClampNeg n) 9 p.toNatClampNeg (nI 1 <<< (n &&& 31))
def mTrunkB (τ : jS) (p n m : Int32) : Bool := mIsPlace τ p && !decide (n < 0) && !decide (nI 3 < n) && !decide (m < 0) && decide (m ≤ nI 15)
def mTrunk (τ : jS) (p n m : Int32) : jS := sU (sU (sU τ 7 p.toNatClampNeg (nI 1)) 8 p.toNatClampNeg n) 9 p.toNatClampNeg m
def mCutB (τ : jS) (w : Int32) (off : Bool) : Bool := !decide (w < 0) && decide (w < τ 0 5) && !decide (τ 13 w.toNatClampNeg = bI off)
def mCutS (τ : jS) (w : Int32) (off : Bool) : jS := mLook (sU (sU (sU τ 13 w.toNatClampNeg (bI off)) 16 (τ 10 w.toNatClampNeg).toNatClampNeg (nI 0)) 16 (τ 11 w.toNatClampNeg).toNatClampNeg (nI 0)) true
def mIsBr (τ : jS) (b : Int32) : Bool := !decide (b < 0) && decide (b < τ 0 4)
def mLearnedB (τ : jS) (b n x : Int32) : Bool := !decide (b < 0) && !decide (τ 0 4 ≤ b) && !decide (n < 0) && !decide (nI 3 < n) && !decide (x < 0) && decide (x ≤ nI 6)
def mCountN (τ : jS) (b : Nat) : Nat → Nat
  | 0 => 0
  | n + 1 => if τ 26 (28 * b + n) ≤ 0 then mCountN τ b n else mCountN τ b n + 1
def mSendB (τ : jS) (f t : Int32) : Bool := mIsHost τ f && (mIsHost τ t || decide (t = -1) || (decide (t = nI 6) && decide (0 ≤ τ 0 7)))
theorem mIsFree_place {τ : jS} {p : Int32} (h : mIsFree τ p = true) : mIsPlace τ p = true := by
  unfold mIsFree at h
  simp only [Bool.and_eq_true] at h
  exact h.1
theorem cnt_ne {x : Int32} {n : Nat} (h : okP (n + 1) x) (h2 : ¬ x = nI n) (hn : n < 2 ^ 30) : vp_in x n ∧ x = nI x.toNatClampNeg ∧ x.toNatClampNeg < n := by
  obtain ⟨k, hk, rfl⟩ := h
  have : ¬ k = n := fun e => h2 (by rw [e])
  rw [nI_clamp (by omega)]
  exact ⟨vp_in_nI (by omega) (by omega), rfl, by omega⟩
theorem net_ok2 {n : Int32} (h1 : ¬ n < 0) (h2 : n ≤ nI 3) : okP 4 n := by
  obtain ⟨k, hk, e⟩ := nI_of2 (M := nI 3) (n := 3) (nI_toInt (by decide)) h1 h2
  exact ⟨k, by omega, e⟩
theorem mAddB_inv {τ : jS} (hI : mInv τ) (pr : Int32) (h : ¬ τ 0 4 = nI 6) : mInv (mAddB τ pr) := by
  obtain ⟨-, e, hk⟩ := cnt_ne hI.nb h (by decide)
  refine ⟨?_, hI.2⟩
  show okP 7 (τ 0 4 + nI 1)
  rw [e, nI_add]
  exact ⟨_, by omega, rfl⟩
theorem mAddW_inv {τ : jS} (hI : mInv τ) {p q c : Int32} (h : ¬ τ 0 5 = nI 10) (hp : okP 24 p) (hq : okP 24 q) : mInv (mAddW τ p q c) := by
  obtain ⟨-, e, hk⟩ := cnt_ne hI.nw h (by decide)
  have hw : okP 10 (τ 0 5) := ⟨_, hk, e⟩
  refine ⟨hI.1, ?_, hI.2.2.1, hI.2.2.2.1, okP_set (okP_set hI.2.2.2.2.1 hw) hw, hI.2.2.2.2.2.1, okP_set hI.2.2.2.2.2.2.1 hp, okP_set hI.2.2.2.2.2.2.2.1 hq, hI.2.2.2.2.2.2.2.2⟩
  show okP 11 (τ 0 5 + nI 1)
  rw [e, nI_add]
  exact ⟨_, by omega, rfl⟩
theorem mAddH_inv {τ : jS} (hI : mInv τ) {p s : Int32} (h : ¬ τ 0 6 = nI 6) (hp : okP 24 p) (hs : okP 4 s) : mInv (mAddH τ p s) := by
  obtain ⟨-, e, hk⟩ := cnt_ne hI.nh h (by decide)
  have hw : okP 10 (τ 0 6) := ⟨_, by omega, e⟩
  refine ⟨hI.1, hI.2.1, ?_, hI.2.2.2.1, okP_set hI.2.2.2.2.1 hw, hI.2.2.2.2.2.1, hI.2.2.2.2.2.2.1, hI.2.2.2.2.2.2.2.1, okP_set hI.2.2.2.2.2.2.2.2.1 hp, okP_set hI.2.2.2.2.2.2.2.2.2.1 hs, hI.2.2.2.2.2.2.2.2.2.2⟩
  show okP 7 (τ 0 6 + nI 1)
  rw [e, nI_add]
  exact ⟨_, by omega, rfl⟩
theorem mAddR_inv {τ : jS} (hI : mInv τ) {p : Int32} (hp : okP 24 p) : mInv (mAddR τ p) :=
  ⟨hI.1, hI.2.1, hI.2.2.1, Or.inr hp, okP_set hI.2.2.2.2.1 ⟨0, by decide, rfl⟩, hI.2.2.2.2.2⟩
theorem mWire_at {τ : jS} (hI : mInv τ) {w : Int32} (h1 : ¬ w < 0) (h2 : w < τ 0 5) : ∃ k, w = nI k ∧ k < (τ 0 5).toNatClampNeg ∧ k < 10 := by
  obtain ⟨hn, e⟩ := hI.nw.cl (by decide)
  obtain ⟨k, hk, rfl⟩ := nI_of h1
  rw [e] at h2
  have := (nI_ltI hk (by omega)).mp h2
  exact ⟨k, rfl, this, by omega⟩
theorem mWire_in {τ : jS} (hI : mInv τ) {w : Int32} (h1 : ¬ w < 0) (h2 : w < τ 0 5) : vp_in w 10 := by
  obtain ⟨k, rfl, -, hk⟩ := mWire_at hI h1 h2
  exact vp_in_nI hk (by decide)
theorem mEnd_ok {τ : jS} (hI : mInv τ) {w : Int32} (h1 : ¬ w < 0) (h2 : w < τ 0 5) : okP 24 (τ 10 w.toNatClampNeg) ∧ okP 24 (τ 11 w.toNatClampNeg) := by
  obtain ⟨k, rfl, -, hk⟩ := mWire_at hI h1 h2
  rw [nI_clamp (by omega)]
  exact ⟨hI.eP hk, hI.eQ hk⟩
theorem mBr_at {τ : jS} (hI : mInv τ) {b : Int32} (h : mIsBr τ b = true) : ∃ k, b = nI k ∧ k < mNb τ := by
  have hn := hI.nbl
  simp only [mIsBr, Bool.and_eq_true, Bool.not_eq_true', decide_eq_false_iff_not, decide_eq_true_eq] at h
  obtain ⟨k, hk, rfl⟩ := nI_of h.1
  have h2 := h.2
  rw [hn.2] at h2
  exact ⟨k, rfl, (nI_ltI hk (by omega)).mp h2⟩
theorem mHost_at {τ : jS} (hI : mInv τ) {b : Int32} (h : mIsHost τ b = true) : ∃ k, b = nI k ∧ k < 6 := by
  obtain ⟨hn, e⟩ := hI.nh.cl (by decide)
  simp only [mIsHost, Bool.and_eq_true, Bool.not_eq_true', decide_eq_false_iff_not] at h
  obtain ⟨k, hk, rfl⟩ := nI_of h.1
  have h2 := h.2
  rw [e] at h2
  have : k < (τ 0 6).toNatClampNeg := Nat.lt_of_not_le (fun q => h2 (nI_le q hk))
  exact ⟨k, rfl, by omega⟩
theorem mDest_ok {τ : jS} (hI : mInv τ) {f t : Int32} (h : mSendB τ f t = true) : okQ 7 t := by
  simp only [mSendB, Bool.and_eq_true, Bool.or_eq_true, decide_eq_true_eq] at h
  rcases h.2 with (h | h) | h
  · obtain ⟨k, e, hk⟩ := mHost_at hI h
    exact Or.inr ⟨k, by omega, e⟩
  · exact Or.inl h
  · exact Or.inr ⟨6, by decide, h.1⟩
set_option maxHeartbeats 4000000 in
set_option maxRecDepth 100000 in
theorem mM_bridge (l : Launch) (D : va_G) (a : Nat → Nat) (cI cZ : ClassId) (τ : jS) (pr : Int32) (hI : mInv τ) : jI l yM_bridge w_M_bridge (rmD 6) D (jTys cI cZ) [.ref (a 0), .int (pr)] (wM a cI cZ τ) (wM a cI cZ (if mBridgeB τ pr = true then mLook (mAddB τ pr) false else τ)) (if mBridgeB τ pr = true then (mLook (mAddB τ pr) false) 0 4 - nI 1 else -1) := by
  refine jI_of (ws' := jG) rfl (by decide) rfl (Nat.le_of_ble_eq_true rfl) ?_
  intro X hF hk
  show jJ l D (rmD 6) 2 X (wM a cI cZ τ) 0 [(0, .ref (a 0)), (1, .int (pr))] []
  refine jq_aload_n (pc := 0) hF 0 dM_bridge_0 rfl ?_
  refine Mg_M_115 (pc := 1) hF dM_bridge_1 ?_
  refine jq_bipush (pc := 4) hF dM_bridge_4 bi_6 ?_
  refine jq_icmp_eq (pc := 6) hF 19 dM_bridge_6 rfl (fun h6 => ?_) (fun h6 => ?_)
  · refine jq_iconst (pc := 19) hF dM_bridge_19 ic_m1 ?_
    exact jq_at (hk 20 _ dM_bridge_20) (congrArg (wM a cI cZ) (by exact if_neg (by simp [mBridgeB, h6]))) rfl rfl (congrArg (fun z => [Value.int z]) (by exact if_neg (by simp [mBridgeB, h6])))
  · refine jq_iload_n (pc := 9) hF 1 dM_bridge_9 rfl ?_
    refine jq_if_lt (pc := 10) hF 19 dM_bridge_10 rfl (fun h10 => ?_) (fun h10 => ?_)
    · refine jq_iconst (pc := 19) hF dM_bridge_19 ic_m1 ?_
      exact jq_at (hk 20 _ dM_bridge_20) (congrArg (wM a cI cZ) (by exact if_neg (by simp [mBridgeB, h6, h10]))) rfl rfl (congrArg (fun z => [Value.int z]) (by exact if_neg (by simp [mBridgeB, h6, h10])))
    · refine jq_iload_n (pc := 13) hF 1 dM_bridge_13 rfl ?_
      refine jq_bipush (pc := 14) hF dM_bridge_14 bi_7 ?_
      refine jq_icmp_le (pc := 16) hF 21 dM_bridge_16 rfl (fun h16 => ?_) (fun h16 => ?_)
      · refine jq_aload_n (pc := 21) hF 0 dM_bridge_21 rfl ?_
        refine Mg_M_7 (pc := 22) hF dM_bridge_22 ?_
        refine jq_aload_n (pc := 25) hF 0 dM_bridge_25 rfl ?_
        refine Mg_M_115 (pc := 26) hF dM_bridge_26 ?_
        refine jq_iload_n (pc := 29) hF 1 dM_bridge_29 rfl ?_
        refine MS_1 (pc := 30) hF ((cnt_ne hI.nb h6 (by decide)).1) dM_bridge_30 ?_
        refine jq_aload_n (pc := 31) hF 0 dM_bridge_31 rfl ?_
        refine jq_dup (pc := 32) hF dM_bridge_32 rfl ?_
        refine Mg_M_115 (pc := 33) hF dM_bridge_33 ?_
        refine jq_iconst (pc := 36) hF dM_bridge_36 ic_1 ?_
        refine jq_iadd (pc := 37) hF dM_bridge_37 ?_
        refine Mp_M_115 (pc := 38) hF dM_bridge_38 ?_
        refine jq_w (wM a cI cZ (mAddB τ pr)) (congrArg (wM a cI cZ) (by rfl)) ?_
        refine jq_aload_n (pc := 41) hF 0 dM_bridge_41 rfl ?_
        refine jq_iconst (pc := 42) hF dM_bridge_42 ic_0 ?_
        refine jq_cVV (pc := 43) hF (As := [.int (nI 0)]) (rest := []) (mM_look l D a cI cZ (mAddB τ pr) (false) (mAddB_inv hI pr h6)) (jG_v mL_M_122 mI_M_look mS_M_look mZ_M mC_M_look) rfl rfl rfl dd_M_look ⟨Nat.le_of_ble_eq_true rfl, Nat.le_of_ble_eq_true rfl⟩ 0 rfl rfl rfl rfl (Nat.le_of_ble_eq_true rfl) dM_bridge_43 ?_
        refine jq_aload_n (pc := 46) hF 0 dM_bridge_46 rfl ?_
        refine Mg_M_115 (pc := 47) hF dM_bridge_47 ?_
        refine jq_iconst (pc := 50) hF dM_bridge_50 ic_1 ?_
        refine jq_isub (pc := 51) hF dM_bridge_51 ?_
        exact jq_at (hk 52 _ dM_bridge_52) (congrArg (wM a cI cZ) (by exact if_pos (by simp [mBridgeB, h6, h10, h16]))) rfl rfl (congrArg (fun z => [Value.int z]) (by exact if_pos (by simp [mBridgeB, h6, h10, h16])))
      · refine jq_iconst (pc := 19) hF dM_bridge_19 ic_m1 ?_
        exact jq_at (hk 20 _ dM_bridge_20) (congrArg (wM a cI cZ) (by exact if_neg (by simp [mBridgeB, h6, h10, h16]))) rfl rfl (congrArg (fun z => [Value.int z]) (by exact if_neg (by simp [mBridgeB, h6, h10, h16])))
set_option maxHeartbeats 4000000 in
set_option maxRecDepth 100000 in
theorem mM_wire (l : Launch) (D : va_G) (a : Nat → Nat) (cI cZ : ClassId) (τ : jS) (p : Int32) (q : Int32) (c : Int32) (hI : mInv τ) : jI l yM_wire w_M_wire (rmD 6) D (jTys cI cZ) [.ref (a 0), .int (p), .int (q), .int (c)] (wM a cI cZ τ) (wM a cI cZ (if mWireB τ p q c = true then mLook (mAddW τ p q c) false else τ)) (if mWireB τ p q c = true then (mLook (mAddW τ p q c) false) 0 5 - nI 1 else -1) := by
  refine jI_of (ws' := jG) rfl (by decide) rfl (Nat.le_of_ble_eq_true rfl) ?_
  intro X hF hk
  show jJ l D (rmD 6) 4 X (wM a cI cZ τ) 0 [(0, .ref (a 0)), (1, .int (p)), (2, .int (q)), (3, .int (c))] []
  refine jq_aload_n (pc := 0) hF 0 dM_wire_0 rfl ?_
  refine Mg_M_126 (pc := 1) hF dM_wire_1 ?_
  refine jq_bipush (pc := 4) hF dM_wire_4 bi_10 ?_
  refine jq_icmp_eq (pc := 6) hF 41 dM_wire_6 rfl (fun h6 => ?_) (fun h6 => ?_)
  · refine jq_iconst (pc := 41) hF dM_wire_41 ic_m1 ?_
    exact jq_at (hk 42 _ dM_wire_42) (congrArg (wM a cI cZ) (by exact if_neg (by simp [mWireB, h6]))) rfl rfl (congrArg (fun z => [Value.int z]) (by exact if_neg (by simp [mWireB, h6])))
  · refine jq_aload_n (pc := 9) hF 0 dM_wire_9 rfl ?_
    refine jq_iload_n (pc := 10) hF 1 dM_wire_10 rfl ?_
    refine jq_cVI (pc := 11) hF (As := [.int (p)]) (rest := []) (mM_isFree l D a cI cZ τ (p) hI) (jG_v mL_M_129 mI_M_isFree mS_M_isFree mZ_M mC_M_isFree) rfl rfl rfl dd_M_isFree ⟨Nat.le_of_ble_eq_true rfl, Nat.le_of_ble_eq_true rfl⟩ 0 rfl rfl rfl rfl (Nat.le_of_ble_eq_true rfl) dM_wire_11 ?_
    refine jq_if_eqB (pc := 14) hF 41 dM_wire_14 rfl (fun h14 => ?_) (fun h14 => ?_)
    · refine jq_iconst (pc := 41) hF dM_wire_41 ic_m1 ?_
      exact jq_at (hk 42 _ dM_wire_42) (congrArg (wM a cI cZ) (by exact if_neg (by simp [mWireB, h6, h14]))) rfl rfl (congrArg (fun z => [Value.int z]) (by exact if_neg (by simp [mWireB, h6, h14])))
    · refine jq_aload_n (pc := 17) hF 0 dM_wire_17 rfl ?_
      refine jq_iload_n (pc := 18) hF 2 dM_wire_18 rfl ?_
      refine jq_cVI (pc := 19) hF (As := [.int (q)]) (rest := []) (mM_isFree l D a cI cZ τ (q) hI) (jG_v mL_M_129 mI_M_isFree mS_M_isFree mZ_M mC_M_isFree) rfl rfl rfl dd_M_isFree ⟨Nat.le_of_ble_eq_true rfl, Nat.le_of_ble_eq_true rfl⟩ 0 rfl rfl rfl rfl (Nat.le_of_ble_eq_true rfl) dM_wire_19 ?_
      refine jq_if_eqB (pc := 22) hF 41 dM_wire_22 rfl (fun h22 => ?_) (fun h22 => ?_)
      · refine jq_iconst (pc := 41) hF dM_wire_41 ic_m1 ?_
        exact jq_at (hk 42 _ dM_wire_42) (congrArg (wM a cI cZ) (by exact if_neg (by simp [mWireB, h6, h14, h22]))) rfl rfl (congrArg (fun z => [Value.int z]) (by exact if_neg (by simp [mWireB, h6, h14, h22])))
      · refine jq_iload_n (pc := 25) hF 1 dM_wire_25 rfl ?_
        refine jq_iload_n (pc := 26) hF 2 dM_wire_26 rfl ?_
        refine jq_icmp_eq (pc := 27) hF 41 dM_wire_27 rfl (fun h27 => ?_) (fun h27 => ?_)
        · refine jq_iconst (pc := 41) hF dM_wire_41 ic_m1 ?_
          exact jq_at (hk 42 _ dM_wire_42) (congrArg (wM a cI cZ) (by exact if_neg (by simp [mWireB, h6, h14, h22, h27]))) rfl rfl (congrArg (fun z => [Value.int z]) (by exact if_neg (by simp [mWireB, h6, h14, h22, h27])))
        · refine jq_iload_n (pc := 30) hF 3 dM_wire_30 rfl ?_
          refine jq_iconst (pc := 31) hF dM_wire_31 ic_1 ?_
          refine jq_icmp_lt (pc := 32) hF 41 dM_wire_32 rfl (fun h32 => ?_) (fun h32 => ?_)
          · refine jq_iconst (pc := 41) hF dM_wire_41 ic_m1 ?_
            exact jq_at (hk 42 _ dM_wire_42) (congrArg (wM a cI cZ) (by exact if_neg (by simp [mWireB, h6, h14, h22, h27, h32]))) rfl rfl (congrArg (fun z => [Value.int z]) (by exact if_neg (by simp [mWireB, h6, h14, h22, h27, h32])))
          · refine jq_iload_n (pc := 35) hF 3 dM_wire_35 rfl ?_
            refine jq_bipush (pc := 36) hF dM_wire_36 bi_9 ?_
            refine jq_icmp_le (pc := 38) hF 43 dM_wire_38 rfl (fun h38 => ?_) (fun h38 => ?_)
            · refine jq_aload_n (pc := 43) hF 0 dM_wire_43 rfl ?_
              refine Mg_M_38 (pc := 44) hF dM_wire_44 ?_
              refine jq_aload_n (pc := 47) hF 0 dM_wire_47 rfl ?_
              refine Mg_M_126 (pc := 48) hF dM_wire_48 ?_
              refine jq_iload_n (pc := 51) hF 1 dM_wire_51 rfl ?_
              refine MS_10 (pc := 52) hF ((cnt_ne hI.nw h6 (by decide)).1) dM_wire_52 ?_
              refine jq_aload_n (pc := 53) hF 0 dM_wire_53 rfl ?_
              refine Mg_M_41 (pc := 54) hF dM_wire_54 ?_
              refine jq_aload_n (pc := 57) hF 0 dM_wire_57 rfl ?_
              refine Mg_M_126 (pc := 58) hF dM_wire_58 ?_
              refine jq_iload_n (pc := 61) hF 2 dM_wire_61 rfl ?_
              refine MS_11 (pc := 62) hF ((cnt_ne hI.nw h6 (by decide)).1) dM_wire_62 ?_
              refine jq_aload_n (pc := 63) hF 0 dM_wire_63 rfl ?_
              refine Mg_M_44 (pc := 64) hF dM_wire_64 ?_
              refine jq_aload_n (pc := 67) hF 0 dM_wire_67 rfl ?_
              refine Mg_M_126 (pc := 68) hF dM_wire_68 ?_
              refine jq_iload_n (pc := 71) hF 3 dM_wire_71 rfl ?_
              refine MS_12 (pc := 72) hF ((cnt_ne hI.nw h6 (by decide)).1) dM_wire_72 ?_
              refine jq_aload_n (pc := 73) hF 0 dM_wire_73 rfl ?_
              refine jq_iload_n (pc := 74) hF 1 dM_wire_74 rfl ?_
              refine jq_iconst (pc := 75) hF dM_wire_75 ic_1 ?_
              refine jq_aload_n (pc := 76) hF 0 dM_wire_76 rfl ?_
              refine Mg_M_126 (pc := 77) hF dM_wire_77 ?_
              refine jq_cVV (pc := 80) hF (As := [.int (p), .int (nI 1), .int ((sU (sU (sU τ 10 (τ 0 5).toNatClampNeg (p)) 11 ((sU τ 10 (τ 0 5).toNatClampNeg (p)) 0 5).toNatClampNeg (q)) 12 ((sU (sU τ 10 (τ 0 5).toNatClampNeg (p)) 11 ((sU τ 10 (τ 0 5).toNatClampNeg (p)) 0 5).toNatClampNeg (q)) 0 5).toNatClampNeg (c)) 0 5)]) (rest := []) (mM_put l D a cI cZ (sU (sU (sU τ 10 (τ 0 5).toNatClampNeg (p)) 11 ((sU τ 10 (τ 0 5).toNatClampNeg (p)) 0 5).toNatClampNeg (q)) 12 ((sU (sU τ 10 (τ 0 5).toNatClampNeg (p)) 11 ((sU τ 10 (τ 0 5).toNatClampNeg (p)) 0 5).toNatClampNeg (q)) 0 5).toNatClampNeg (c)) (p) (nI (1)) ((sU (sU (sU τ 10 (τ 0 5).toNatClampNeg (p)) 11 ((sU τ 10 (τ 0 5).toNatClampNeg (p)) 0 5).toNatClampNeg (q)) 12 ((sU (sU τ 10 (τ 0 5).toNatClampNeg (p)) 11 ((sU τ 10 (τ 0 5).toNatClampNeg (p)) 0 5).toNatClampNeg (q)) 0 5).toNatClampNeg (c)) 0 5) (mIsPlace_in hI (mIsFree_place h14))) (jG_v mL_M_132 mI_M_put mS_M_put mZ_M mC_M_put) rfl rfl rfl dd_M_put ⟨Nat.le_of_ble_eq_true rfl, Nat.le_of_ble_eq_true rfl⟩ 0 rfl rfl rfl rfl (Nat.le_of_ble_eq_true rfl) dM_wire_80 ?_
              refine jq_aload_n (pc := 83) hF 0 dM_wire_83 rfl ?_
              refine jq_iload_n (pc := 84) hF 2 dM_wire_84 rfl ?_
              refine jq_iconst (pc := 85) hF dM_wire_85 ic_1 ?_
              refine jq_aload_n (pc := 86) hF 0 dM_wire_86 rfl ?_
              refine Mg_M_126 (pc := 87) hF dM_wire_87 ?_
              refine jq_cVV (pc := 90) hF (As := [.int (q), .int (nI 1), .int ((mPut (sU (sU (sU τ 10 (τ 0 5).toNatClampNeg (p)) 11 ((sU τ 10 (τ 0 5).toNatClampNeg (p)) 0 5).toNatClampNeg (q)) 12 ((sU (sU τ 10 (τ 0 5).toNatClampNeg (p)) 11 ((sU τ 10 (τ 0 5).toNatClampNeg (p)) 0 5).toNatClampNeg (q)) 0 5).toNatClampNeg (c)) (p) (nI (1)) ((sU (sU (sU τ 10 (τ 0 5).toNatClampNeg (p)) 11 ((sU τ 10 (τ 0 5).toNatClampNeg (p)) 0 5).toNatClampNeg (q)) 12 ((sU (sU τ 10 (τ 0 5).toNatClampNeg (p)) 11 ((sU τ 10 (τ 0 5).toNatClampNeg (p)) 0 5).toNatClampNeg (q)) 0 5).toNatClampNeg (c)) 0 5)) 0 5)]) (rest := []) (mM_put l D a cI cZ (mPut (sU (sU (sU τ 10 (τ 0 5).toNatClampNeg (p)) 11 ((sU τ 10 (τ 0 5).toNatClampNeg (p)) 0 5).toNatClampNeg (q)) 12 ((sU (sU τ 10 (τ 0 5).toNatClampNeg (p)) 11 ((sU τ 10 (τ 0 5).toNatClampNeg (p)) 0 5).toNatClampNeg (q)) 0 5).toNatClampNeg (c)) (p) (nI (1)) ((sU (sU (sU τ 10 (τ 0 5).toNatClampNeg (p)) 11 ((sU τ 10 (τ 0 5).toNatClampNeg (p)) 0 5).toNatClampNeg (q)) 12 ((sU (sU τ 10 (τ 0 5).toNatClampNeg (p)) 11 ((sU τ 10 (τ 0 5).toNatClampNeg (p)) 0 5).toNatClampNeg (q)) 0 5).toNatClampNeg (c)) 0 5)) (q) (nI (1)) ((mPut (sU (sU (sU τ 10 (τ 0 5).toNatClampNeg (p)) 11 ((sU τ 10 (τ 0 5).toNatClampNeg (p)) 0 5).toNatClampNeg (q)) 12 ((sU (sU τ 10 (τ 0 5).toNatClampNeg (p)) 11 ((sU τ 10 (τ 0 5).toNatClampNeg (p)) 0 5).toNatClampNeg (q)) 0 5).toNatClampNeg (c)) (p) (nI (1)) ((sU (sU (sU τ 10 (τ 0 5).toNatClampNeg (p)) 11 ((sU τ 10 (τ 0 5).toNatClampNeg (p)) 0 5).toNatClampNeg (q)) 12 ((sU (sU τ 10 (τ 0 5).toNatClampNeg (p)) 11 ((sU τ 10 (τ 0 5).toNatClampNeg (p)) 0 5).toNatClampNeg (q)) 0 5).toNatClampNeg (c)) 0 5)) 0 5) (mIsPlace_in hI (mIsFree_place h22))) (jG_v mL_M_132 mI_M_put mS_M_put mZ_M mC_M_put) rfl rfl rfl dd_M_put ⟨Nat.le_of_ble_eq_true rfl, Nat.le_of_ble_eq_true rfl⟩ 0 rfl rfl rfl rfl (Nat.le_of_ble_eq_true rfl) dM_wire_90 ?_
              refine jq_aload_n (pc := 93) hF 0 dM_wire_93 rfl ?_
              refine jq_dup (pc := 94) hF dM_wire_94 rfl ?_
              refine Mg_M_126 (pc := 95) hF dM_wire_95 ?_
              refine jq_iconst (pc := 98) hF dM_wire_98 ic_1 ?_
              refine jq_iadd (pc := 99) hF dM_wire_99 ?_
              refine Mp_M_126 (pc := 100) hF dM_wire_100 ?_
              refine jq_w (wM a cI cZ (mAddW τ p q c)) (congrArg (wM a cI cZ) (by rfl)) ?_
              refine jq_aload_n (pc := 103) hF 0 dM_wire_103 rfl ?_
              refine jq_iconst (pc := 104) hF dM_wire_104 ic_0 ?_
              refine jq_cVV (pc := 105) hF (As := [.int (nI 0)]) (rest := []) (mM_look l D a cI cZ (mAddW τ p q c) (false) (mAddW_inv hI h6 (vp_ok (mIsPlace_in hI (mIsFree_place h14)) (by decide)) (vp_ok (mIsPlace_in hI (mIsFree_place h22)) (by decide)))) (jG_v mL_M_122 mI_M_look mS_M_look mZ_M mC_M_look) rfl rfl rfl dd_M_look ⟨Nat.le_of_ble_eq_true rfl, Nat.le_of_ble_eq_true rfl⟩ 0 rfl rfl rfl rfl (Nat.le_of_ble_eq_true rfl) dM_wire_105 ?_
              refine jq_aload_n (pc := 108) hF 0 dM_wire_108 rfl ?_
              refine Mg_M_126 (pc := 109) hF dM_wire_109 ?_
              refine jq_iconst (pc := 112) hF dM_wire_112 ic_1 ?_
              refine jq_isub (pc := 113) hF dM_wire_113 ?_
              exact jq_at (hk 114 _ dM_wire_114) (congrArg (wM a cI cZ) (by exact if_pos (by simp [mWireB, h6, h14, h22, h27, h32, h38]))) rfl rfl (congrArg (fun z => [Value.int z]) (by exact if_pos (by simp [mWireB, h6, h14, h22, h27, h32, h38])))
            · refine jq_iconst (pc := 41) hF dM_wire_41 ic_m1 ?_
              exact jq_at (hk 42 _ dM_wire_42) (congrArg (wM a cI cZ) (by exact if_neg (by simp [mWireB, h6, h14, h22, h27, h32, h38]))) rfl rfl (congrArg (fun z => [Value.int z]) (by exact if_neg (by simp [mWireB, h6, h14, h22, h27, h32, h38])))
set_option maxHeartbeats 4000000 in
set_option maxRecDepth 100000 in
theorem mM_host (l : Launch) (D : va_G) (a : Nat → Nat) (cI cZ : ClassId) (τ : jS) (p : Int32) (sn : Int32) (hI : mInv τ) : jI l yM_host w_M_host (rmD 6) D (jTys cI cZ) [.ref (a 0), .int (p), .int (sn)] (wM a cI cZ τ) (wM a cI cZ (if mHostB τ p sn = true then mLook (mAddH τ p sn) false else τ)) (if mHostB τ p sn = true then (mLook (mAddH τ p sn) false) 0 6 - nI 1 else -1) := by
  refine jI_of (ws' := jG) rfl (by decide) rfl (Nat.le_of_ble_eq_true rfl) ?_
  intro X hF hk
  show jJ l D (rmD 6) 3 X (wM a cI cZ τ) 0 [(0, .ref (a 0)), (1, .int (p)), (2, .int (sn))] []
  refine jq_aload_n (pc := 0) hF 0 dM_host_0 rfl ?_
  refine Mg_M_136 (pc := 1) hF dM_host_1 ?_
  refine jq_bipush (pc := 4) hF dM_host_4 bi_6 ?_
  refine jq_icmp_eq (pc := 6) hF 26 dM_host_6 rfl (fun h6 => ?_) (fun h6 => ?_)
  · refine jq_iconst (pc := 26) hF dM_host_26 ic_m1 ?_
    exact jq_at (hk 27 _ dM_host_27) (congrArg (wM a cI cZ) (by exact if_neg (by simp [mHostB, h6]))) rfl rfl (congrArg (fun z => [Value.int z]) (by exact if_neg (by simp [mHostB, h6])))
  · refine jq_aload_n (pc := 9) hF 0 dM_host_9 rfl ?_
    refine jq_iload_n (pc := 10) hF 1 dM_host_10 rfl ?_
    refine jq_cVI (pc := 11) hF (As := [.int (p)]) (rest := []) (mM_isFree l D a cI cZ τ (p) hI) (jG_v mL_M_129 mI_M_isFree mS_M_isFree mZ_M mC_M_isFree) rfl rfl rfl dd_M_isFree ⟨Nat.le_of_ble_eq_true rfl, Nat.le_of_ble_eq_true rfl⟩ 0 rfl rfl rfl rfl (Nat.le_of_ble_eq_true rfl) dM_host_11 ?_
    refine jq_if_eqB (pc := 14) hF 26 dM_host_14 rfl (fun h14 => ?_) (fun h14 => ?_)
    · refine jq_iconst (pc := 26) hF dM_host_26 ic_m1 ?_
      exact jq_at (hk 27 _ dM_host_27) (congrArg (wM a cI cZ) (by exact if_neg (by simp [mHostB, h6, h14]))) rfl rfl (congrArg (fun z => [Value.int z]) (by exact if_neg (by simp [mHostB, h6, h14])))
    · refine jq_iload_n (pc := 17) hF 2 dM_host_17 rfl ?_
      refine jq_if_lt (pc := 18) hF 26 dM_host_18 rfl (fun h18 => ?_) (fun h18 => ?_)
      · refine jq_iconst (pc := 26) hF dM_host_26 ic_m1 ?_
        exact jq_at (hk 27 _ dM_host_27) (congrArg (wM a cI cZ) (by exact if_neg (by simp [mHostB, h6, h14, h18]))) rfl rfl (congrArg (fun z => [Value.int z]) (by exact if_neg (by simp [mHostB, h6, h14, h18])))
      · refine jq_iload_n (pc := 21) hF 2 dM_host_21 rfl ?_
        refine jq_iconst (pc := 22) hF dM_host_22 ic_3 ?_
        refine jq_icmp_le (pc := 23) hF 28 dM_host_23 rfl (fun h23 => ?_) (fun h23 => ?_)
        · refine jq_aload_n (pc := 28) hF 0 dM_host_28 rfl ?_
          refine Mg_M_50 (pc := 29) hF dM_host_29 ?_
          refine jq_aload_n (pc := 32) hF 0 dM_host_32 rfl ?_
          refine Mg_M_136 (pc := 33) hF dM_host_33 ?_
          refine jq_iload_n (pc := 36) hF 1 dM_host_36 rfl ?_
          refine MS_14 (pc := 37) hF ((cnt_ne hI.nh h6 (by decide)).1) dM_host_37 ?_
          refine jq_aload_n (pc := 38) hF 0 dM_host_38 rfl ?_
          refine Mg_M_53 (pc := 39) hF dM_host_39 ?_
          refine jq_aload_n (pc := 42) hF 0 dM_host_42 rfl ?_
          refine Mg_M_136 (pc := 43) hF dM_host_43 ?_
          refine jq_iload_n (pc := 46) hF 2 dM_host_46 rfl ?_
          refine MS_15 (pc := 47) hF ((cnt_ne hI.nh h6 (by decide)).1) dM_host_47 ?_
          refine jq_aload_n (pc := 48) hF 0 dM_host_48 rfl ?_
          refine jq_iload_n (pc := 49) hF 1 dM_host_49 rfl ?_
          refine jq_iconst (pc := 50) hF dM_host_50 ic_2 ?_
          refine jq_aload_n (pc := 51) hF 0 dM_host_51 rfl ?_
          refine Mg_M_136 (pc := 52) hF dM_host_52 ?_
          refine jq_cVV (pc := 55) hF (As := [.int (p), .int (nI 2), .int ((sU (sU τ 14 (τ 0 6).toNatClampNeg (p)) 15 ((sU τ 14 (τ 0 6).toNatClampNeg (p)) 0 6).toNatClampNeg (sn)) 0 6)]) (rest := []) (mM_put l D a cI cZ (sU (sU τ 14 (τ 0 6).toNatClampNeg (p)) 15 ((sU τ 14 (τ 0 6).toNatClampNeg (p)) 0 6).toNatClampNeg (sn)) (p) (nI (2)) ((sU (sU τ 14 (τ 0 6).toNatClampNeg (p)) 15 ((sU τ 14 (τ 0 6).toNatClampNeg (p)) 0 6).toNatClampNeg (sn)) 0 6) (mIsPlace_in hI (mIsFree_place h14))) (jG_v mL_M_132 mI_M_put mS_M_put mZ_M mC_M_put) rfl rfl rfl dd_M_put ⟨Nat.le_of_ble_eq_true rfl, Nat.le_of_ble_eq_true rfl⟩ 0 rfl rfl rfl rfl (Nat.le_of_ble_eq_true rfl) dM_host_55 ?_
          refine jq_aload_n (pc := 58) hF 0 dM_host_58 rfl ?_
          refine jq_dup (pc := 59) hF dM_host_59 rfl ?_
          refine Mg_M_136 (pc := 60) hF dM_host_60 ?_
          refine jq_iconst (pc := 63) hF dM_host_63 ic_1 ?_
          refine jq_iadd (pc := 64) hF dM_host_64 ?_
          refine Mp_M_136 (pc := 65) hF dM_host_65 ?_
          refine jq_w (wM a cI cZ (mAddH τ p sn)) (congrArg (wM a cI cZ) (by rfl)) ?_
          refine jq_aload_n (pc := 68) hF 0 dM_host_68 rfl ?_
          refine jq_iconst (pc := 69) hF dM_host_69 ic_0 ?_
          refine jq_cVV (pc := 70) hF (As := [.int (nI 0)]) (rest := []) (mM_look l D a cI cZ (mAddH τ p sn) (false) (mAddH_inv hI h6 (vp_ok (mIsPlace_in hI (mIsFree_place h14)) (by decide)) (net_ok2 h18 h23))) (jG_v mL_M_122 mI_M_look mS_M_look mZ_M mC_M_look) rfl rfl rfl dd_M_look ⟨Nat.le_of_ble_eq_true rfl, Nat.le_of_ble_eq_true rfl⟩ 0 rfl rfl rfl rfl (Nat.le_of_ble_eq_true rfl) dM_host_70 ?_
          refine jq_aload_n (pc := 73) hF 0 dM_host_73 rfl ?_
          refine Mg_M_136 (pc := 74) hF dM_host_74 ?_
          refine jq_iconst (pc := 77) hF dM_host_77 ic_1 ?_
          refine jq_isub (pc := 78) hF dM_host_78 ?_
          exact jq_at (hk 79 _ dM_host_79) (congrArg (wM a cI cZ) (by exact if_pos (by simp [mHostB, h6, h14, h18, h23]))) rfl rfl (congrArg (fun z => [Value.int z]) (by exact if_pos (by simp [mHostB, h6, h14, h18, h23])))
        · refine jq_iconst (pc := 26) hF dM_host_26 ic_m1 ?_
          exact jq_at (hk 27 _ dM_host_27) (congrArg (wM a cI cZ) (by exact if_neg (by simp [mHostB, h6, h14, h18, h23]))) rfl rfl (congrArg (fun z => [Value.int z]) (by exact if_neg (by simp [mHostB, h6, h14, h18, h23])))
set_option maxHeartbeats 4000000 in
set_option maxRecDepth 100000 in
theorem mM_router (l : Launch) (D : va_G) (a : Nat → Nat) (cI cZ : ClassId) (τ : jS) (p : Int32) (hI : mInv τ) : jI l yM_router w_M_router (rmD 6) D (jTys cI cZ) [.ref (a 0), .int (p)] (wM a cI cZ τ) (wM a cI cZ (if mRouterB τ p = true then mLook (mAddR τ p) false else τ)) (bI (mRouterB τ p)) := by
  refine jI_of (ws' := jG) (bI_nw _) (by decide) rfl (Nat.le_of_ble_eq_true rfl) ?_
  intro X hF hk
  show jJ l D (rmD 6) 2 X (wM a cI cZ τ) 0 [(0, .ref (a 0)), (1, .int (p))] []
  refine jq_aload_n (pc := 0) hF 0 dM_router_0 rfl ?_
  refine Mg_M_56 (pc := 1) hF dM_router_1 ?_
  refine jq_if_ge (pc := 4) hF 15 dM_router_4 rfl (fun h4 => ?_) (fun h4 => ?_)
  · refine jq_iconst (pc := 15) hF dM_router_15 ic_0 ?_
    exact jq_at (hk 16 _ dM_router_16) (congrArg (wM a cI cZ) (by exact if_neg (by simp [mRouterB, h4]))) rfl rfl (congrArg (fun z => [Value.int z]) (bI0 (by simp [mRouterB, h4])))
  · refine jq_aload_n (pc := 7) hF 0 dM_router_7 rfl ?_
    refine jq_iload_n (pc := 8) hF 1 dM_router_8 rfl ?_
    refine jq_cVI (pc := 9) hF (As := [.int (p)]) (rest := []) (mM_isFree l D a cI cZ τ (p) hI) (jG_v mL_M_129 mI_M_isFree mS_M_isFree mZ_M mC_M_isFree) rfl rfl rfl dd_M_isFree ⟨Nat.le_of_ble_eq_true rfl, Nat.le_of_ble_eq_true rfl⟩ 0 rfl rfl rfl rfl (Nat.le_of_ble_eq_true rfl) dM_router_9 ?_
    refine jq_if_neB (pc := 12) hF 17 dM_router_12 rfl (fun h12 => ?_) (fun h12 => ?_)
    · refine jq_aload_n (pc := 17) hF 0 dM_router_17 rfl ?_
      refine jq_iload_n (pc := 18) hF 1 dM_router_18 rfl ?_
      refine Mp_M_56 (pc := 19) hF dM_router_19 ?_
      refine jq_aload_n (pc := 22) hF 0 dM_router_22 rfl ?_
      refine jq_iload_n (pc := 23) hF 1 dM_router_23 rfl ?_
      refine jq_iconst (pc := 24) hF dM_router_24 ic_3 ?_
      refine jq_iconst (pc := 25) hF dM_router_25 ic_0 ?_
      refine jq_cVV (pc := 26) hF (As := [.int (p), .int (nI 3), .int (nI 0)]) (rest := []) (mM_put l D a cI cZ (sU τ 0 7 (p)) (p) (nI (3)) (nI (0)) (mIsPlace_in hI (mIsFree_place h12))) (jG_v mL_M_132 mI_M_put mS_M_put mZ_M mC_M_put) rfl rfl rfl dd_M_put ⟨Nat.le_of_ble_eq_true rfl, Nat.le_of_ble_eq_true rfl⟩ 0 rfl rfl rfl rfl (Nat.le_of_ble_eq_true rfl) dM_router_26 ?_
      refine jq_w (wM a cI cZ (mAddR τ p)) (congrArg (wM a cI cZ) (by rfl)) ?_
      refine jq_aload_n (pc := 29) hF 0 dM_router_29 rfl ?_
      refine jq_iconst (pc := 30) hF dM_router_30 ic_0 ?_
      refine jq_cVV (pc := 31) hF (As := [.int (nI 0)]) (rest := []) (mM_look l D a cI cZ (mAddR τ p) (false) (mAddR_inv hI (vp_ok (mIsPlace_in hI (mIsFree_place h12)) (by decide)))) (jG_v mL_M_122 mI_M_look mS_M_look mZ_M mC_M_look) rfl rfl rfl dd_M_look ⟨Nat.le_of_ble_eq_true rfl, Nat.le_of_ble_eq_true rfl⟩ 0 rfl rfl rfl rfl (Nat.le_of_ble_eq_true rfl) dM_router_31 ?_
      refine jq_iconst (pc := 34) hF dM_router_34 ic_1 ?_
      exact jq_at (hk 35 _ dM_router_35) (congrArg (wM a cI cZ) (by exact if_pos (by simp [mRouterB, h4, h12]))) rfl rfl (congrArg (fun z => [Value.int z]) (bI1 (by simp [mRouterB, h4, h12])))
    · refine jq_iconst (pc := 15) hF dM_router_15 ic_0 ?_
      exact jq_at (hk 16 _ dM_router_16) (congrArg (wM a cI cZ) (by exact if_neg (by simp [mRouterB, h4, h12]))) rfl rfl (congrArg (fun z => [Value.int z]) (bI0 (by simp [mRouterB, h4, h12])))
set_option maxHeartbeats 4000000 in
set_option maxRecDepth 100000 in
theorem mM_access (l : Launch) (D : va_G) (a : Nat → Nat) (cI cZ : ClassId) (τ : jS) (p : Int32) (nw : Int32) (hI : mInv τ) : jI l yM_access w_M_access (rmD 2) D (jTys cI cZ) [.ref (a 0), .int (p), .int (nw)] (wM a cI cZ τ) (wM a cI cZ (if mAccessB τ p nw = true then mAccess τ p nw else τ)) (bI (mAccessB τ p nw)) := by
  refine jI_of (ws' := jG) (bI_nw _) (by decide) rfl (Nat.le_of_ble_eq_true rfl) ?_
  intro X hF hk
  show jJ l D (rmD 2) 3 X (wM a cI cZ τ) 0 [(0, .ref (a 0)), (1, .int (p)), (2, .int (nw))] []
  refine jq_aload_n (pc := 0) hF 0 dM_access_0 rfl ?_
  refine jq_iload_n (pc := 1) hF 1 dM_access_1 rfl ?_
  refine jq_cVI (pc := 2) hF (As := [.int (p)]) (rest := []) (mM_isPlace l D a cI cZ τ (p) ) (jG_v mL_M_118 mI_M_isPlace mS_M_isPlace mZ_M mC_M_isPlace) rfl rfl rfl dd_M_isPlace ⟨Nat.le_of_ble_eq_true rfl, Nat.le_of_ble_eq_true rfl⟩ 0 rfl rfl rfl rfl (Nat.le_of_ble_eq_true rfl) dM_access_2 ?_
  refine jq_if_eqB (pc := 5) hF 17 dM_access_5 rfl (fun h5 => ?_) (fun h5 => ?_)
  · refine jq_iconst (pc := 17) hF dM_access_17 ic_0 ?_
    exact jq_at (hk 18 _ dM_access_18) (congrArg (wM a cI cZ) (by exact if_neg (by simp [mAccessB, h5]))) rfl rfl (congrArg (fun z => [Value.int z]) (bI0 (by simp [mAccessB, h5])))
  · refine jq_iload_n (pc := 8) hF 2 dM_access_8 rfl ?_
    refine jq_if_lt (pc := 9) hF 17 dM_access_9 rfl (fun h9 => ?_) (fun h9 => ?_)
    · refine jq_iconst (pc := 17) hF dM_access_17 ic_0 ?_
      exact jq_at (hk 18 _ dM_access_18) (congrArg (wM a cI cZ) (by exact if_neg (by simp [mAccessB, h5, h9]))) rfl rfl (congrArg (fun z => [Value.int z]) (bI0 (by simp [mAccessB, h5, h9])))
    · refine jq_iload_n (pc := 12) hF 2 dM_access_12 rfl ?_
      refine jq_iconst (pc := 13) hF dM_access_13 ic_3 ?_
      refine jq_icmp_le (pc := 14) hF 19 dM_access_14 rfl (fun h14 => ?_) (fun h14 => ?_)
      · refine jq_aload_n (pc := 19) hF 0 dM_access_19 rfl ?_
        refine Mg_M_29 (pc := 20) hF dM_access_20 ?_
        refine jq_iload_n (pc := 23) hF 1 dM_access_23 rfl ?_
        refine jq_iconst (pc := 24) hF dM_access_24 ic_0 ?_
        refine MS_7 (pc := 25) hF (mIsPlace_in hI h5) rfl dM_access_25 ?_
        refine jq_aload_n (pc := 26) hF 0 dM_access_26 rfl ?_
        refine Mg_M_32 (pc := 27) hF dM_access_27 ?_
        refine jq_iload_n (pc := 30) hF 1 dM_access_30 rfl ?_
        refine jq_iload_n (pc := 31) hF 2 dM_access_31 rfl ?_
        refine MS_8 (pc := 32) hF (mIsPlace_in hI h5) dM_access_32 ?_
        refine jq_aload_n (pc := 33) hF 0 dM_access_33 rfl ?_
        refine Mg_M_35 (pc := 34) hF dM_access_34 ?_
        refine jq_iload_n (pc := 37) hF 1 dM_access_37 rfl ?_
        refine jq_iconst (pc := 38) hF dM_access_38 ic_1 ?_
        refine jq_iload_n (pc := 39) hF 2 dM_access_39 rfl ?_
        refine jq_ishl (pc := 40) hF dM_access_40 ?_
        refine MS_9 (pc := 41) hF (mIsPlace_in hI h5) dM_access_41 ?_
        refine jq_iconst (pc := 42) hF dM_access_42 ic_1 ?_
        exact jq_at (hk 43 _ dM_access_43) (congrArg (wM a cI cZ) (by exact if_pos (by simp [mAccessB, h5, h9, h14]))) rfl rfl (congrArg (fun z => [Value.int z]) (bI1 (by simp [mAccessB, h5, h9, h14])))
      · refine jq_iconst (pc := 17) hF dM_access_17 ic_0 ?_
        exact jq_at (hk 18 _ dM_access_18) (congrArg (wM a cI cZ) (by exact if_neg (by simp [mAccessB, h5, h9, h14]))) rfl rfl (congrArg (fun z => [Value.int z]) (bI0 (by simp [mAccessB, h5, h9, h14])))
set_option maxHeartbeats 4000000 in
set_option maxRecDepth 100000 in
theorem mM_trunk (l : Launch) (D : va_G) (a : Nat → Nat) (cI cZ : ClassId) (τ : jS) (p : Int32) (nn : Int32) (mb : Int32) (hI : mInv τ) : jI l yM_trunk w_M_trunk (rmD 2) D (jTys cI cZ) [.ref (a 0), .int (p), .int (nn), .int (mb)] (wM a cI cZ τ) (wM a cI cZ (if mTrunkB τ p nn mb = true then mTrunk τ p nn mb else τ)) (bI (mTrunkB τ p nn mb)) := by
  refine jI_of (ws' := jG) (bI_nw _) (by decide) rfl (Nat.le_of_ble_eq_true rfl) ?_
  intro X hF hk
  show jJ l D (rmD 2) 4 X (wM a cI cZ τ) 0 [(0, .ref (a 0)), (1, .int (p)), (2, .int (nn)), (3, .int (mb))] []
  refine jq_aload_n (pc := 0) hF 0 dM_trunk_0 rfl ?_
  refine jq_iload_n (pc := 1) hF 1 dM_trunk_1 rfl ?_
  refine jq_cVI (pc := 2) hF (As := [.int (p)]) (rest := []) (mM_isPlace l D a cI cZ τ (p) ) (jG_v mL_M_118 mI_M_isPlace mS_M_isPlace mZ_M mC_M_isPlace) rfl rfl rfl dd_M_isPlace ⟨Nat.le_of_ble_eq_true rfl, Nat.le_of_ble_eq_true rfl⟩ 0 rfl rfl rfl rfl (Nat.le_of_ble_eq_true rfl) dM_trunk_2 ?_
  refine jq_if_eqB (pc := 5) hF 27 dM_trunk_5 rfl (fun h5 => ?_) (fun h5 => ?_)
  · refine jq_iconst (pc := 27) hF dM_trunk_27 ic_0 ?_
    exact jq_at (hk 28 _ dM_trunk_28) (congrArg (wM a cI cZ) (by exact if_neg (by simp [mTrunkB, h5]))) rfl rfl (congrArg (fun z => [Value.int z]) (bI0 (by simp [mTrunkB, h5])))
  · refine jq_iload_n (pc := 8) hF 2 dM_trunk_8 rfl ?_
    refine jq_if_lt (pc := 9) hF 27 dM_trunk_9 rfl (fun h9 => ?_) (fun h9 => ?_)
    · refine jq_iconst (pc := 27) hF dM_trunk_27 ic_0 ?_
      exact jq_at (hk 28 _ dM_trunk_28) (congrArg (wM a cI cZ) (by exact if_neg (by simp [mTrunkB, h5, h9]))) rfl rfl (congrArg (fun z => [Value.int z]) (bI0 (by simp [mTrunkB, h5, h9])))
    · refine jq_iload_n (pc := 12) hF 2 dM_trunk_12 rfl ?_
      refine jq_iconst (pc := 13) hF dM_trunk_13 ic_3 ?_
      refine jq_icmp_gt (pc := 14) hF 27 dM_trunk_14 rfl (fun h14 => ?_) (fun h14 => ?_)
      · refine jq_iconst (pc := 27) hF dM_trunk_27 ic_0 ?_
        exact jq_at (hk 28 _ dM_trunk_28) (congrArg (wM a cI cZ) (by exact if_neg (by simp [mTrunkB, h5, h9, h14]))) rfl rfl (congrArg (fun z => [Value.int z]) (bI0 (by simp [mTrunkB, h5, h9, h14])))
      · refine jq_iload_n (pc := 17) hF 3 dM_trunk_17 rfl ?_
        refine jq_if_lt (pc := 18) hF 27 dM_trunk_18 rfl (fun h18 => ?_) (fun h18 => ?_)
        · refine jq_iconst (pc := 27) hF dM_trunk_27 ic_0 ?_
          exact jq_at (hk 28 _ dM_trunk_28) (congrArg (wM a cI cZ) (by exact if_neg (by simp [mTrunkB, h5, h9, h14, h18]))) rfl rfl (congrArg (fun z => [Value.int z]) (bI0 (by simp [mTrunkB, h5, h9, h14, h18])))
        · refine jq_iload_n (pc := 21) hF 3 dM_trunk_21 rfl ?_
          refine jq_bipush (pc := 22) hF dM_trunk_22 bi_15 ?_
          refine jq_icmp_le (pc := 24) hF 29 dM_trunk_24 rfl (fun h24 => ?_) (fun h24 => ?_)
          · refine jq_aload_n (pc := 29) hF 0 dM_trunk_29 rfl ?_
            refine Mg_M_29 (pc := 30) hF dM_trunk_30 ?_
            refine jq_iload_n (pc := 33) hF 1 dM_trunk_33 rfl ?_
            refine jq_iconst (pc := 34) hF dM_trunk_34 ic_1 ?_
            refine MS_7 (pc := 35) hF (mIsPlace_in hI h5) rfl dM_trunk_35 ?_
            refine jq_aload_n (pc := 36) hF 0 dM_trunk_36 rfl ?_
            refine Mg_M_32 (pc := 37) hF dM_trunk_37 ?_
            refine jq_iload_n (pc := 40) hF 1 dM_trunk_40 rfl ?_
            refine jq_iload_n (pc := 41) hF 2 dM_trunk_41 rfl ?_
            refine MS_8 (pc := 42) hF (mIsPlace_in hI h5) dM_trunk_42 ?_
            refine jq_aload_n (pc := 43) hF 0 dM_trunk_43 rfl ?_
            refine Mg_M_35 (pc := 44) hF dM_trunk_44 ?_
            refine jq_iload_n (pc := 47) hF 1 dM_trunk_47 rfl ?_
            refine jq_iload_n (pc := 48) hF 3 dM_trunk_48 rfl ?_
            refine MS_9 (pc := 49) hF (mIsPlace_in hI h5) dM_trunk_49 ?_
            refine jq_iconst (pc := 50) hF dM_trunk_50 ic_1 ?_
            exact jq_at (hk 51 _ dM_trunk_51) (congrArg (wM a cI cZ) (by exact if_pos (by simp [mTrunkB, h5, h9, h14, h18, h24]))) rfl rfl (congrArg (fun z => [Value.int z]) (bI1 (by simp [mTrunkB, h5, h9, h14, h18, h24])))
          · refine jq_iconst (pc := 27) hF dM_trunk_27 ic_0 ?_
            exact jq_at (hk 28 _ dM_trunk_28) (congrArg (wM a cI cZ) (by exact if_neg (by simp [mTrunkB, h5, h9, h14, h18, h24]))) rfl rfl (congrArg (fun z => [Value.int z]) (bI0 (by simp [mTrunkB, h5, h9, h14, h18, h24])))
set_option maxHeartbeats 4000000 in
set_option maxRecDepth 100000 in
theorem mM_cut (l : Launch) (D : va_G) (a : Nat → Nat) (cI cZ : ClassId) (τ : jS) (w : Int32) (off : Bool) (hI : mInv τ) : jI l yM_cut w_M_cut (rmD 6) D (jTys cI cZ) [.ref (a 0), .int (w), .int (bI (off))] (wM a cI cZ τ) (wM a cI cZ (if mCutB τ w off = true then mCutS τ w off else τ)) (bI (mCutB τ w off)) := by
  refine jI_of (ws' := jG) (bI_nw _) (by decide) rfl (Nat.le_of_ble_eq_true rfl) ?_
  intro X hF hk
  show jJ l D (rmD 6) 3 X (wM a cI cZ τ) 0 [(0, .ref (a 0)), (1, .int (w)), (2, .int (bI (off)))] []
  refine jq_iload_n (pc := 0) hF 1 dM_cut_0 rfl ?_
  refine jq_if_lt (pc := 1) hF 12 dM_cut_1 rfl (fun h1 => ?_) (fun h1 => ?_)
  · refine jq_iconst (pc := 12) hF dM_cut_12 ic_0 ?_
    exact jq_at (hk 13 _ dM_cut_13) (congrArg (wM a cI cZ) (by exact if_neg (by simp [mCutB, h1]))) rfl rfl (congrArg (fun z => [Value.int z]) (bI0 (by simp [mCutB, h1])))
  · refine jq_iload_n (pc := 4) hF 1 dM_cut_4 rfl ?_
    refine jq_aload_n (pc := 5) hF 0 dM_cut_5 rfl ?_
    refine Mg_M_126 (pc := 6) hF dM_cut_6 ?_
    refine jq_icmp_lt (pc := 9) hF 14 dM_cut_9 rfl (fun h9 => ?_) (fun h9 => ?_)
    · refine jq_aload_n (pc := 14) hF 0 dM_cut_14 rfl ?_
      refine Mg_M_47 (pc := 15) hF dM_cut_15 ?_
      refine jq_iload_n (pc := 18) hF 1 dM_cut_18 rfl ?_
      refine ML_13 (pc := 19) hF (mWire_in hI h1 h9) dM_cut_19 ?_
      refine jq_iload_n (pc := 20) hF 2 dM_cut_20 rfl ?_
      refine jq_icmp_ne (pc := 21) hF 26 dM_cut_21 rfl (fun h21 => ?_) (fun h21 => ?_)
      · refine jq_aload_n (pc := 26) hF 0 dM_cut_26 rfl ?_
        refine Mg_M_47 (pc := 27) hF dM_cut_27 ?_
        refine jq_iload_n (pc := 30) hF 1 dM_cut_30 rfl ?_
        refine jq_iload_n (pc := 31) hF 2 dM_cut_31 rfl ?_
        refine MS_13 (pc := 32) hF (mWire_in hI h1 h9) (bI_nar _) dM_cut_32 ?_
        refine jq_aload_n (pc := 33) hF 0 dM_cut_33 rfl ?_
        refine Mg_M_60 (pc := 34) hF dM_cut_34 ?_
        refine jq_aload_n (pc := 37) hF 0 dM_cut_37 rfl ?_
        refine Mg_M_38 (pc := 38) hF dM_cut_38 ?_
        refine jq_iload_n (pc := 41) hF 1 dM_cut_41 rfl ?_
        refine ML_10 (pc := 42) hF (mWire_in hI h1 h9) dM_cut_42 ?_
        refine jq_iconst (pc := 43) hF dM_cut_43 ic_0 ?_
        refine MS_16 (pc := 44) hF (((mEnd_ok hI h1 h9).1.mono (n := 48) (by decide)).inn (by decide)) rfl dM_cut_44 ?_
        refine jq_aload_n (pc := 45) hF 0 dM_cut_45 rfl ?_
        refine Mg_M_60 (pc := 46) hF dM_cut_46 ?_
        refine jq_aload_n (pc := 49) hF 0 dM_cut_49 rfl ?_
        refine Mg_M_41 (pc := 50) hF dM_cut_50 ?_
        refine jq_iload_n (pc := 53) hF 1 dM_cut_53 rfl ?_
        refine ML_11 (pc := 54) hF (mWire_in hI h1 h9) dM_cut_54 ?_
        refine jq_iconst (pc := 55) hF dM_cut_55 ic_0 ?_
        refine MS_16 (pc := 56) hF (((mEnd_ok hI h1 h9).2.mono (n := 48) (by decide)).inn (by decide)) rfl dM_cut_56 ?_
        refine jq_aload_n (pc := 57) hF 0 dM_cut_57 rfl ?_
        refine jq_iconst (pc := 58) hF dM_cut_58 ic_1 ?_
        refine jq_cVV (pc := 59) hF (As := [.int (nI 1)]) (rest := []) (mM_look l D a cI cZ (sU (sU (sU τ 13 (w).toNatClampNeg (bI (off))) 16 ((sU τ 13 (w).toNatClampNeg (bI (off))) 10 (w).toNatClampNeg).toNatClampNeg (nI (0))) 16 ((sU (sU τ 13 (w).toNatClampNeg (bI (off))) 16 ((sU τ 13 (w).toNatClampNeg (bI (off))) 10 (w).toNatClampNeg).toNatClampNeg (nI (0))) 11 (w).toNatClampNeg).toNatClampNeg (nI (0))) (true) (((hI.u (by decide)).u (by decide)).u (by decide))) (jG_v mL_M_122 mI_M_look mS_M_look mZ_M mC_M_look) rfl rfl rfl dd_M_look ⟨Nat.le_of_ble_eq_true rfl, Nat.le_of_ble_eq_true rfl⟩ 0 rfl rfl rfl rfl (Nat.le_of_ble_eq_true rfl) dM_cut_59 ?_
        refine jq_iconst (pc := 62) hF dM_cut_62 ic_1 ?_
        exact jq_at (hk 63 _ dM_cut_63) (congrArg (wM a cI cZ) (by exact if_pos (by simp [mCutB, h1, h9, h21]))) rfl rfl (congrArg (fun z => [Value.int z]) (bI1 (by simp [mCutB, h1, h9, h21])))
      · refine jq_iconst (pc := 24) hF dM_cut_24 ic_0 ?_
        exact jq_at (hk 25 _ dM_cut_25) (congrArg (wM a cI cZ) (by exact if_neg (by simp [mCutB, h1, h9, h21]))) rfl rfl (congrArg (fun z => [Value.int z]) (bI0 (by simp [mCutB, h1, h9, h21])))
    · refine jq_iconst (pc := 12) hF dM_cut_12 ic_0 ?_
      exact jq_at (hk 13 _ dM_cut_13) (congrArg (wM a cI cZ) (by exact if_neg (by simp [mCutB, h1, h9]))) rfl rfl (congrArg (fun z => [Value.int z]) (bI0 (by simp [mCutB, h1, h9])))
set_option maxHeartbeats 4000000 in
set_option maxRecDepth 100000 in
theorem mM_role (l : Launch) (D : va_G) (a : Nat → Nat) (cI cZ : ClassId) (τ : jS) (p : Int32) (hI : mInv τ) : jI l yM_role w_M_role (rmD 4) D (jTys cI cZ) [.ref (a 0), .int (p)] (wM a cI cZ τ) (wM a cI cZ (τ)) (if mIsPlace τ p = true then mRole τ (p).toNatClampNeg else -1) := by
  refine jI_of (ws' := jG) rfl (by decide) rfl (Nat.le_of_ble_eq_true rfl) ?_
  intro X hF hk
  show jJ l D (rmD 4) 2 X (wM a cI cZ τ) 0 [(0, .ref (a 0)), (1, .int (p))] []
  refine jq_aload_n (pc := 0) hF 0 dM_role_0 rfl ?_
  refine jq_iload_n (pc := 1) hF 1 dM_role_1 rfl ?_
  refine jq_cVI (pc := 2) hF (As := [.int (p)]) (rest := []) (mM_isPlace l D a cI cZ τ (p) ) (jG_v mL_M_118 mI_M_isPlace mS_M_isPlace mZ_M mC_M_isPlace) rfl rfl rfl dd_M_isPlace ⟨Nat.le_of_ble_eq_true rfl, Nat.le_of_ble_eq_true rfl⟩ 0 rfl rfl rfl rfl (Nat.le_of_ble_eq_true rfl) dM_role_2 ?_
  refine jq_if_eqB (pc := 5) hF 16 dM_role_5 rfl (fun h5 => ?_) (fun h5 => ?_)
  · refine jq_iconst (pc := 16) hF dM_role_16 ic_m1 ?_
    exact jq_at (hk 17 _ dM_role_17) rfl rfl rfl (congrArg (fun z => [Value.int z]) (by first | (rw [if_pos h5, nI_clamp (by omega)]; done) | exact if_neg (by rw [h5]; decide)))
  · have hnb := hI.nbl.1
    obtain ⟨k, rfl, hkk⟩ := mIsPlace_at hI h5
    refine jq_aload_n (pc := 8) hF 0 dM_role_8 rfl ?_
    refine jq_iload_n (pc := 9) hF 1 dM_role_9 rfl ?_
    refine jq_cVI (pc := 10) hF (As := [.int (nI k)]) (rest := []) (mM_roleOf l D a cI cZ τ (k) (by omega) hI) (jG_v mL_M_166 mI_M_roleOf mS_M_roleOf mZ_M mC_M_roleOf) rfl rfl rfl dd_M_roleOf ⟨Nat.le_of_ble_eq_true rfl, Nat.le_of_ble_eq_true rfl⟩ 0 rfl rfl rfl rfl (Nat.le_of_ble_eq_true rfl) dM_role_10 ?_
    refine jq_goto (pc := 13) hF 17 dM_role_13 rfl ?_
    exact jq_at (hk 17 _ dM_role_17) rfl rfl rfl (congrArg (fun z => [Value.int z]) (by first | (rw [if_pos h5, nI_clamp (by omega)]; done) | exact if_neg (by rw [h5]; decide)))
set_option maxHeartbeats 4000000 in
set_option maxRecDepth 100000 in
theorem mM_state (l : Launch) (D : va_G) (a : Nat → Nat) (cI cZ : ClassId) (τ : jS) (p : Int32) (hI : mInv τ) : jI l yM_state w_M_state (rmD 5) D (jTys cI cZ) [.ref (a 0), .int (p)] (wM a cI cZ τ) (wM a cI cZ (τ)) (if mIsPlace τ p = true then mState τ (p).toNatClampNeg else -1) := by
  refine jI_of (ws' := jG) rfl (by decide) rfl (Nat.le_of_ble_eq_true rfl) ?_
  intro X hF hk
  show jJ l D (rmD 5) 2 X (wM a cI cZ τ) 0 [(0, .ref (a 0)), (1, .int (p))] []
  refine jq_aload_n (pc := 0) hF 0 dM_state_0 rfl ?_
  refine jq_iload_n (pc := 1) hF 1 dM_state_1 rfl ?_
  refine jq_cVI (pc := 2) hF (As := [.int (p)]) (rest := []) (mM_isPlace l D a cI cZ τ (p) ) (jG_v mL_M_118 mI_M_isPlace mS_M_isPlace mZ_M mC_M_isPlace) rfl rfl rfl dd_M_isPlace ⟨Nat.le_of_ble_eq_true rfl, Nat.le_of_ble_eq_true rfl⟩ 0 rfl rfl rfl rfl (Nat.le_of_ble_eq_true rfl) dM_state_2 ?_
  refine jq_if_eqB (pc := 5) hF 16 dM_state_5 rfl (fun h5 => ?_) (fun h5 => ?_)
  · refine jq_iconst (pc := 16) hF dM_state_16 ic_m1 ?_
    exact jq_at (hk 17 _ dM_state_17) rfl rfl rfl (congrArg (fun z => [Value.int z]) (by first | (rw [if_pos h5, nI_clamp (by omega)]; done) | exact if_neg (by rw [h5]; decide)))
  · have hnb := hI.nbl.1
    obtain ⟨k, rfl, hkk⟩ := mIsPlace_at hI h5
    refine jq_aload_n (pc := 8) hF 0 dM_state_8 rfl ?_
    refine jq_iload_n (pc := 9) hF 1 dM_state_9 rfl ?_
    refine jq_cVI (pc := 10) hF (As := [.int (nI k)]) (rest := []) (mM_stateOf l D a cI cZ τ (k) (by omega) hI) (jG_v mL_M_169 mI_M_stateOf mS_M_stateOf mZ_M mC_M_stateOf) rfl rfl rfl dd_M_stateOf ⟨Nat.le_of_ble_eq_true rfl, Nat.le_of_ble_eq_true rfl⟩ 0 rfl rfl rfl rfl (Nat.le_of_ble_eq_true rfl) dM_state_10 ?_
    refine jq_goto (pc := 13) hF 17 dM_state_13 rfl ?_
    exact jq_at (hk 17 _ dM_state_17) rfl rfl rfl (congrArg (fun z => [Value.int z]) (by first | (rw [if_pos h5, nI_clamp (by omega)]; done) | exact if_neg (by rw [h5]; decide)))
set_option maxHeartbeats 4000000 in
set_option maxRecDepth 100000 in
theorem mM_root (l : Launch) (D : va_G) (a : Nat → Nat) (cI cZ : ClassId) (τ : jS) (b : Int32) (hI : mInv τ) : jI l yM_root w_M_root (rmD 3) D (jTys cI cZ) [.ref (a 0), .int (b)] (wM a cI cZ τ) (wM a cI cZ (τ)) (if mIsBr τ b = true then mRootOf τ (b).toNatClampNeg * nI 2048 + mDist τ (b).toNatClampNeg * nI 2 + bI (mMarked τ (b).toNatClampNeg) else -1) := by
  refine jI_of (ws' := jG) rfl (by decide) rfl (Nat.le_of_ble_eq_true rfl) ?_
  intro X hF hk
  show jJ l D (rmD 3) 2 X (wM a cI cZ τ) 0 [(0, .ref (a 0)), (1, .int (b))] []
  refine jq_iload_n (pc := 0) hF 1 dM_root_0 rfl ?_
  refine jq_if_lt (pc := 1) hF 12 dM_root_1 rfl (fun h1 => ?_) (fun h1 => ?_)
  · refine jq_iconst (pc := 12) hF dM_root_12 ic_m1 ?_
    exact jq_at (hk 13 _ dM_root_13) rfl rfl rfl (congrArg (fun z => [Value.int z]) (by exact if_neg (by simp [mIsBr, h1])))
  · refine jq_iload_n (pc := 4) hF 1 dM_root_4 rfl ?_
    refine jq_aload_n (pc := 5) hF 0 dM_root_5 rfl ?_
    refine Mg_M_115 (pc := 6) hF dM_root_6 ?_
    refine jq_icmp_lt (pc := 9) hF 14 dM_root_9 rfl (fun h9 => ?_) (fun h9 => ?_)
    · have hnb := hI.nbl.1
      have hB : mIsBr τ b = true := by simp [mIsBr, h1, h9]
      obtain ⟨k, rfl, hkk⟩ := mBr_at hI hB
      refine jq_aload_n (pc := 14) hF 0 dM_root_14 rfl ?_
      refine jq_iload_n (pc := 15) hF 1 dM_root_15 rfl ?_
      refine jq_cVI (pc := 16) hF (As := [.int (nI k)]) (rest := []) (mM_rootOf l D a cI cZ τ (k) (by omega) hI) (jG_v mL_M_160 mI_M_rootOf mS_M_rootOf mZ_M mC_M_rootOf) rfl rfl rfl dd_M_rootOf ⟨Nat.le_of_ble_eq_true rfl, Nat.le_of_ble_eq_true rfl⟩ 0 rfl rfl rfl rfl (Nat.le_of_ble_eq_true rfl) dM_root_16 ?_
      refine jq_sipush (pc := 19) hF dM_root_19 si_2048 ?_
      refine jq_imul (pc := 22) hF dM_root_22 ?_
      refine jq_aload_n (pc := 23) hF 0 dM_root_23 rfl ?_
      refine jq_iload_n (pc := 24) hF 1 dM_root_24 rfl ?_
      refine jq_cVI (pc := 25) hF (As := [.int (nI k)]) (rest := [.int ((mRootOf τ (k)) * (nI (2048)))]) (mM_distance l D a cI cZ τ (k) (by omega) hI) (jG_v mL_M_163 mI_M_distance mS_M_distance mZ_M mC_M_distance) rfl rfl rfl dd_M_distance ⟨Nat.le_of_ble_eq_true rfl, Nat.le_of_ble_eq_true rfl⟩ 0 rfl rfl rfl rfl (Nat.le_of_ble_eq_true rfl) dM_root_25 ?_
      refine jq_iconst (pc := 28) hF dM_root_28 ic_2 ?_
      refine jq_imul (pc := 29) hF dM_root_29 ?_
      refine jq_iadd (pc := 30) hF dM_root_30 ?_
      refine jq_aload_n (pc := 31) hF 0 dM_root_31 rfl ?_
      refine jq_iload_n (pc := 32) hF 1 dM_root_32 rfl ?_
      refine jq_cVI (pc := 33) hF (As := [.int (nI k)]) (rest := [.int (((mRootOf τ (k)) * (nI (2048))) + ((mDist τ (k)) * (nI (2))))]) (mM_marked l D a cI cZ τ (k) (by omega) hI) (jG_v mL_M_175 mI_M_marked mS_M_marked mZ_M mC_M_marked) rfl rfl rfl dd_M_marked ⟨Nat.le_of_ble_eq_true rfl, Nat.le_of_ble_eq_true rfl⟩ 0 rfl rfl rfl rfl (Nat.le_of_ble_eq_true rfl) dM_root_33 ?_
      have j44 : jJ l D (rmD 3) 2 X (wM a cI cZ τ) 44 [(0, .ref (a 0)), (1, .int (nI k))] [.int (bI ((mMarked τ (k)))), .int (((mRootOf τ (k)) * (nI (2048))) + ((mDist τ (k)) * (nI (2))))] := by
        refine jq_iadd (pc := 44) hF dM_root_44 ?_
        exact jq_at (hk 45 _ dM_root_45) rfl rfl rfl (congrArg (fun z => [Value.int z]) (by rw [if_pos hB, nI_clamp (by omega)]))
      refine jq_if_eqB (pc := 36) hF 43 dM_root_36 rfl (fun h36 => ?_) (fun h36 => ?_)
      · refine jq_iconst (pc := 43) hF dM_root_43 ic_0 ?_
        exact jq_at j44 rfl rfl rfl (by rw [h36]; rfl)
      · refine jq_iconst (pc := 39) hF dM_root_39 ic_1 ?_
        refine jq_goto (pc := 40) hF 44 dM_root_40 rfl ?_
        exact jq_at j44 rfl rfl rfl (by rw [h36]; rfl)
    · refine jq_iconst (pc := 12) hF dM_root_12 ic_m1 ?_
      exact jq_at (hk 13 _ dM_root_13) rfl rfl rfl (congrArg (fun z => [Value.int z]) (by exact if_neg (by simp [mIsBr, h1, h9])))
set_option maxHeartbeats 4000000 in
set_option maxRecDepth 100000 in
theorem mM_learned (l : Launch) (D : va_G) (a : Nat → Nat) (cI cZ : ClassId) (τ : jS) (b : Int32) (n : Int32) (x : Int32) (hI : mInv τ) : jI l yM_learned w_M_learned (rmD 1) D (jTys cI cZ) [.ref (a 0), .int (b), .int (n), .int (x)] (wM a cI cZ τ) (wM a cI cZ (τ)) (if mLearnedB τ b n x = true then τ 26 ((4 * (b).toNatClampNeg + (n).toNatClampNeg) * 7 + (x).toNatClampNeg) - nI 1 else -1) := by
  refine jI_of (ws' := jG) rfl (by decide) rfl (Nat.le_of_ble_eq_true rfl) ?_
  intro X hF hk
  show jJ l D (rmD 1) 4 X (wM a cI cZ τ) 0 [(0, .ref (a 0)), (1, .int (b)), (2, .int (n)), (3, .int (x))] []
  refine jq_iload_n (pc := 0) hF 1 dM_learned_0 rfl ?_
  refine jq_if_lt (pc := 1) hF 31 dM_learned_1 rfl (fun h1 => ?_) (fun h1 => ?_)
  · refine jq_iconst (pc := 31) hF dM_learned_31 ic_m1 ?_
    exact jq_at (hk 32 _ dM_learned_32) rfl rfl rfl (congrArg (fun z => [Value.int z]) (by exact if_neg (by simp [mLearnedB, h1])))
  · refine jq_iload_n (pc := 4) hF 1 dM_learned_4 rfl ?_
    refine jq_aload_n (pc := 5) hF 0 dM_learned_5 rfl ?_
    refine Mg_M_115 (pc := 6) hF dM_learned_6 ?_
    refine jq_icmp_ge (pc := 9) hF 31 dM_learned_9 rfl (fun h9 => ?_) (fun h9 => ?_)
    · refine jq_iconst (pc := 31) hF dM_learned_31 ic_m1 ?_
      exact jq_at (hk 32 _ dM_learned_32) rfl rfl rfl (congrArg (fun z => [Value.int z]) (by exact if_neg (by simp [mLearnedB, h1, h9])))
    · refine jq_iload_n (pc := 12) hF 2 dM_learned_12 rfl ?_
      refine jq_if_lt (pc := 13) hF 31 dM_learned_13 rfl (fun h13 => ?_) (fun h13 => ?_)
      · refine jq_iconst (pc := 31) hF dM_learned_31 ic_m1 ?_
        exact jq_at (hk 32 _ dM_learned_32) rfl rfl rfl (congrArg (fun z => [Value.int z]) (by exact if_neg (by simp [mLearnedB, h1, h9, h13])))
      · refine jq_iload_n (pc := 16) hF 2 dM_learned_16 rfl ?_
        refine jq_iconst (pc := 17) hF dM_learned_17 ic_3 ?_
        refine jq_icmp_gt (pc := 18) hF 31 dM_learned_18 rfl (fun h18 => ?_) (fun h18 => ?_)
        · refine jq_iconst (pc := 31) hF dM_learned_31 ic_m1 ?_
          exact jq_at (hk 32 _ dM_learned_32) rfl rfl rfl (congrArg (fun z => [Value.int z]) (by exact if_neg (by simp [mLearnedB, h1, h9, h13, h18])))
        · refine jq_iload_n (pc := 21) hF 3 dM_learned_21 rfl ?_
          refine jq_if_lt (pc := 22) hF 31 dM_learned_22 rfl (fun h22 => ?_) (fun h22 => ?_)
          · refine jq_iconst (pc := 31) hF dM_learned_31 ic_m1 ?_
            exact jq_at (hk 32 _ dM_learned_32) rfl rfl rfl (congrArg (fun z => [Value.int z]) (by exact if_neg (by simp [mLearnedB, h1, h9, h13, h18, h22])))
          · refine jq_iload_n (pc := 25) hF 3 dM_learned_25 rfl ?_
            refine jq_bipush (pc := 26) hF dM_learned_26 bi_6 ?_
            refine jq_icmp_le (pc := 28) hF 33 dM_learned_28 rfl (fun h28 => ?_) (fun h28 => ?_)
            · have hnb := hI.nbl.1
              have hB : mLearnedB τ b n x = true := by simp [mLearnedB, h1, h9, h13, h18, h22, h28]
              obtain ⟨k, rfl, hkk⟩ := mBr_at hI (b := b) (by simp [mIsBr, h1, Int32.not_le.mp h9])
              obtain ⟨j, hj, rfl⟩ := nI_of2 (M := nI 3) (n := 3) (nI_toInt (by decide)) h13 (Int32.not_lt.mp h18)
              obtain ⟨y, hy, rfl⟩ := nI_of2 (M := nI 6) (n := 6) (nI_toInt (by decide)) h22 h28
              refine jq_aload_n (pc := 33) hF 0 dM_learned_33 rfl ?_
              refine Mg_M_90 (pc := 34) hF dM_learned_34 ?_
              refine jq_iconst (pc := 37) hF dM_learned_37 ic_4 ?_
              refine jq_iload_n (pc := 38) hF 1 dM_learned_38 rfl ?_
              refine jq_imulN (pc := 39) hF dM_learned_39 ?_
              refine jq_iload_n (pc := 40) hF 2 dM_learned_40 rfl ?_
              refine jq_iaddN (pc := 41) hF dM_learned_41 ?_
              refine jq_bipush (pc := 42) hF dM_learned_42 bi_7 ?_
              refine jq_imulN (pc := 44) hF dM_learned_44 ?_
              refine jq_iload_n (pc := 45) hF 3 dM_learned_45 rfl ?_
              refine jq_iaddN (pc := 46) hF dM_learned_46 ?_
              refine Ml_26 (pc := 47) hF (by omega) dM_learned_47 ?_
              refine jq_iconst (pc := 48) hF dM_learned_48 ic_1 ?_
              refine jq_isub (pc := 49) hF dM_learned_49 ?_
              exact jq_at (hk 50 _ dM_learned_50) rfl rfl rfl (congrArg (fun z => [Value.int z]) (by rw [if_pos hB, nI_clamp (by omega), nI_clamp (by omega), nI_clamp (by omega)]))
            · refine jq_iconst (pc := 31) hF dM_learned_31 ic_m1 ?_
              exact jq_at (hk 32 _ dM_learned_32) rfl rfl rfl (congrArg (fun z => [Value.int z]) (by exact if_neg (by simp [mLearnedB, h1, h9, h13, h18, h22, h28])))
set_option maxHeartbeats 4000000 in
set_option maxRecDepth 100000 in
theorem mM_entries (l : Launch) (D : va_G) (a : Nat → Nat) (cI cZ : ClassId) (τ : jS) (b : Int32) (hI : mInv τ) : jI l yM_entries w_M_entries (rmD 1) D (jTys cI cZ) [.ref (a 0), .int (b)] (wM a cI cZ τ) (wM a cI cZ (τ)) (if mIsBr τ b = true then nI (mCountN τ (b).toNatClampNeg 28) else -1) := by
  refine jI_of (ws' := jG) rfl (by decide) rfl (Nat.le_of_ble_eq_true rfl) ?_
  intro X hF hk
  show jJ l D (rmD 1) 4 X (wM a cI cZ τ) 0 [(0, .ref (a 0)), (1, .int (b))] []
  refine jq_iload_n (pc := 0) hF 1 dM_entries_0 rfl ?_
  refine jq_if_lt (pc := 1) hF 12 dM_entries_1 rfl (fun h1 => ?_) (fun h1 => ?_)
  · refine jq_iconst (pc := 12) hF dM_entries_12 ic_m1 ?_
    exact jq_at (hk 13 _ dM_entries_13) rfl rfl rfl (congrArg (fun z => [Value.int z]) (by exact if_neg (by simp [mIsBr, h1])))
  · refine jq_iload_n (pc := 4) hF 1 dM_entries_4 rfl ?_
    refine jq_aload_n (pc := 5) hF 0 dM_entries_5 rfl ?_
    refine Mg_M_115 (pc := 6) hF dM_entries_6 ?_
    refine jq_icmp_lt (pc := 9) hF 14 dM_entries_9 rfl (fun h9 => ?_) (fun h9 => ?_)
    · have hnb := hI.nbl.1
      have hB : mIsBr τ b = true := by simp [mIsBr, h1, h9]
      obtain ⟨k, rfl, hkk⟩ := mBr_at hI hB
      refine jq_iconst (pc := 14) hF dM_entries_14 ic_0 ?_
      refine jq_istore_n (pc := 15) hF [(2, .int (nI 0)), (0, .ref (a 0)), (1, .int (nI k))] dM_entries_15 (Nat.le_of_ble_eq_true rfl) rfl ?_
      refine jq_bipush (pc := 16) hF dM_entries_16 bi_28 ?_
      refine jq_iload_n (pc := 18) hF 2 dM_entries_18 rfl ?_
      refine jq_imulN (pc := 19) hF dM_entries_19 ?_
      refine jq_istore_n (pc := 20) hF [(3, .int (nI (28 * k))), (2, .int (nI 0)), (0, .ref (a 0)), (1, .int (nI k))] dM_entries_20 (Nat.le_of_ble_eq_true rfl) rfl ?_
      have lp21 : ∀ i, i ≤ 28 → jJ l D (rmD 1) 4 X (wM a cI cZ (τ)) 21 [(3, .int (nI (28 * k + i))), (2, .int (nI (mCountN τ k i))), (0, .ref (a 0)), (1, .int (nI k))] [] := by
        refine loop_up (fun i hi ih21 => ?_)
        refine jq_iload_n (pc := 21) hF 0 dM_entries_21 rfl ?_
        refine jq_bipush (pc := 22) hF dM_entries_22 bi_28 ?_
        refine jq_iload_n (pc := 24) hF 3 dM_entries_24 rfl ?_
        refine jq_imulN (pc := 25) hF dM_entries_25 ?_
        refine jq_bipush (pc := 26) hF dM_entries_26 bi_28 ?_
        refine jq_iaddN (pc := 28) hF dM_entries_28 ?_
        refine jq_icmp_geN (pc := 29) hF 50 (by omega) (by omega) dM_entries_29 rfl (fun h29 => ?_) (fun h29 => ?_)
        · obtain rfl : i = 28 := by omega
          refine jq_iload_n (pc := 50) hF 1 dM_entries_50 rfl ?_
          exact jq_at (hk 51 _ dM_entries_51) rfl rfl rfl (congrArg (fun z => [Value.int z]) (by rw [if_pos hB, nI_clamp (by omega)]))
        · refine jq_aload_n (pc := 32) hF 2 dM_entries_32 rfl ?_
          refine Mg_M_90 (pc := 33) hF dM_entries_33 ?_
          refine jq_iload_n (pc := 36) hF 0 dM_entries_36 rfl ?_
          refine Ml_26 (pc := 37) hF (by omega) dM_entries_37 ?_
          refine jq_if_le (pc := 38) hF 44 dM_entries_38 rfl (fun h38 => ?_) (fun h38 => ?_)
          · refine jq_iincN (pc := 44) hF 0 [(3, .int (nI (28 * k + i + 1))), (2, .int (nI (mCountN τ k i))), (0, .ref (a 0)), (1, .int (nI k))] dM_entries_44 rfl (Nat.le_of_ble_eq_true rfl) rfl ?_
            refine jq_goto (pc := 47) hF 21 dM_entries_47 rfl ?_
            refine jq_sub [(3, .int (nI (28 * k + i + 1))), (2, .int (nI (mCountN τ k i))), (0, .ref (a 0)), (1, .int (nI k))] [0, 1, 2, 3] rfl ?_
            exact jq_at (ih21 (by omega)) rfl rfl (by simp [mCountN, h29, h38, Nat.add_assoc]) rfl
          · refine jq_iincN (pc := 41) hF 1 [(2, .int (nI (mCountN τ k i + 1))), (3, .int (nI (28 * k + i))), (0, .ref (a 0)), (1, .int (nI k))] dM_entries_41 rfl (Nat.le_of_ble_eq_true rfl) rfl ?_
            refine jq_iincN (pc := 44) hF 1 [(3, .int (nI (28 * k + i + 1))), (2, .int (nI (mCountN τ k i + 1))), (0, .ref (a 0)), (1, .int (nI k))] dM_entries_44 rfl (Nat.le_of_ble_eq_true rfl) rfl ?_
            refine jq_goto (pc := 47) hF 21 dM_entries_47 rfl ?_
            refine jq_sub [(3, .int (nI (28 * k + i + 1))), (2, .int (nI (mCountN τ k i + 1))), (0, .ref (a 0)), (1, .int (nI k))] [0, 1, 2, 3] rfl ?_
            exact jq_at (ih21 (by omega)) rfl rfl (by simp [mCountN, h29, h38, Nat.add_assoc]) rfl
      exact jq_at (lp21 0 (by omega)) rfl rfl rfl rfl
    · refine jq_iconst (pc := 12) hF dM_entries_12 ic_m1 ?_
      exact jq_at (hk 13 _ dM_entries_13) rfl rfl rfl (congrArg (fun z => [Value.int z]) (by exact if_neg (by simp [mIsBr, h1, h9])))
set_option maxHeartbeats 4000000 in
set_option maxRecDepth 100000 in
theorem mM_answer (l : Launch) (D : va_G) (a : Nat → Nat) (cI cZ : ClassId) (τ : jS)   : jI l yM_answer w_M_answer (rmD 0) D (jTys cI cZ) [.ref (a 0)] (wM a cI cZ τ) (wM a cI cZ (τ)) (τ 0 12) := by
  refine jI_of (ws' := jG) rfl (by decide) rfl (Nat.le_of_ble_eq_true rfl) ?_
  intro X hF hk
  show jJ l D (rmD 0) 1 X (wM a cI cZ τ) 0 [(0, .ref (a 0))] []
  refine jq_aload_n (pc := 0) hF 0 dM_answer_0 rfl ?_
  refine Mg_M_234 (pc := 1) hF dM_answer_1 ?_
  exact jq_at (hk 4 _ dM_answer_4) rfl rfl rfl rfl
set_option maxHeartbeats 4000000 in
set_option maxRecDepth 100000 in
theorem mM_crossings (l : Launch) (D : va_G) (a : Nat → Nat) (cI cZ : ClassId) (τ : jS)   : jI l yM_crossings w_M_crossings (rmD 0) D (jTys cI cZ) [.ref (a 0)] (wM a cI cZ τ) (wM a cI cZ (τ)) (τ 0 11) := by
  refine jI_of (ws' := jG) rfl (by decide) rfl (Nat.le_of_ble_eq_true rfl) ?_
  intro X hF hk
  show jJ l D (rmD 0) 1 X (wM a cI cZ τ) 0 [(0, .ref (a 0))] []
  refine jq_aload_n (pc := 0) hF 0 dM_crossings_0 rfl ?_
  refine Mg_M_217 (pc := 1) hF dM_crossings_1 ?_
  exact jq_at (hk 4 _ dM_crossings_4) rfl rfl rfl rfl
set_option maxHeartbeats 4000000 in
set_option maxRecDepth 100000 in
theorem mM_send (l : Launch) (D : va_G) (a : Nat → Nat) (cI cZ : ClassId) (τ : jS) (f : Int32) (t : Int32) (hI : mInv τ) : jI l yM_send w_M_send (rmD 7) D (jTys cI cZ) [.ref (a 0), .int (f), .int (t)] (wM a cI cZ τ) (wM a cI cZ (if mSendB τ f t = true then mFrame (sU τ 0 11 (nI 0)) (τ 14 (f).toNatClampNeg) (-1) (f).toNatClampNeg t else τ)) (if mSendB τ f t = true then (mFrame (sU τ 0 11 (nI 0)) (τ 14 (f).toNatClampNeg) (-1) (f).toNatClampNeg t) 0 10 else -1) := by
  refine jI_of (ws' := jG) rfl (by decide) rfl (Nat.le_of_ble_eq_true rfl) ?_
  intro X hF hk
  show jJ l D (rmD 7) 3 X (wM a cI cZ τ) 0 [(0, .ref (a 0)), (1, .int (f)), (2, .int (t))] []
  refine jq_aload_n (pc := 0) hF 0 dM_send_0 rfl ?_
  refine jq_iload_n (pc := 1) hF 1 dM_send_1 rfl ?_
  refine jq_cVI (pc := 2) hF (As := [.int (f)]) (rest := []) (mM_isHost l D a cI cZ τ (f) ) (jG_v mL_M_220 mI_M_isHost mS_M_isHost mZ_M mC_M_isHost) rfl rfl rfl dd_M_isHost ⟨Nat.le_of_ble_eq_true rfl, Nat.le_of_ble_eq_true rfl⟩ 0 rfl rfl rfl rfl (Nat.le_of_ble_eq_true rfl) dM_send_2 ?_
  refine jq_if_eqB (pc := 5) hF 34 dM_send_5 rfl (fun h5 => ?_) (fun h5 => ?_)
  · refine jq_iconst (pc := 34) hF dM_send_34 ic_m1 ?_
    exact jq_at (hk 35 _ dM_send_35) (congrArg (wM a cI cZ) (by exact if_neg (by simp [mSendB, h5]))) rfl rfl (congrArg (fun z => [Value.int z]) (by exact if_neg (by simp [mSendB, h5])))
  · refine jq_aload_n (pc := 8) hF 0 dM_send_8 rfl ?_
    refine jq_iload_n (pc := 9) hF 2 dM_send_9 rfl ?_
    refine jq_cVI (pc := 10) hF (As := [.int (t)]) (rest := []) (mM_isHost l D a cI cZ τ (t) ) (jG_v mL_M_220 mI_M_isHost mS_M_isHost mZ_M mC_M_isHost) rfl rfl rfl dd_M_isHost ⟨Nat.le_of_ble_eq_true rfl, Nat.le_of_ble_eq_true rfl⟩ 0 rfl rfl rfl rfl (Nat.le_of_ble_eq_true rfl) dM_send_10 ?_
    refine jq_if_neB (pc := 13) hF 36 dM_send_13 rfl (fun h13 => ?_) (fun h13 => ?_)
    · have hB : mSendB τ f t = true := by simp [mSendB, h5, h13]
      have hD : okQ 7 t := mDest_ok hI hB
      obtain ⟨k, rfl, hkk⟩ := mHost_at hI h5
      refine jq_aload_n (pc := 36) hF 0 dM_send_36 rfl ?_
      refine jq_iconst (pc := 37) hF dM_send_37 ic_0 ?_
      refine Mp_M_217 (pc := 38) hF dM_send_38 ?_
      refine jq_aload_n (pc := 41) hF 0 dM_send_41 rfl ?_
      refine jq_aload_n (pc := 42) hF 0 dM_send_42 rfl ?_
      refine Mg_M_50 (pc := 43) hF dM_send_43 ?_
      refine jq_iload_n (pc := 46) hF 1 dM_send_46 rfl ?_
      refine Ml_14 (pc := 47) hF (by omega) dM_send_47 ?_
      refine jq_iconst (pc := 48) hF dM_send_48 ic_m1 ?_
      refine jq_iload_n (pc := 49) hF 1 dM_send_49 rfl ?_
      refine jq_iload_n (pc := 50) hF 2 dM_send_50 rfl ?_
      refine jq_cVI (pc := 51) hF (As := [.int ((sU τ 0 11 (nI (0))) 14 (k)), .int (-1), .int (nI k), .int (t)]) (rest := []) (mM_frame l D a cI cZ (sU τ 0 11 (nI (0))) ((sU τ 0 11 (nI (0))) 14 (k)) (-1) (k) (t) (hI.at_ hkk) (Or.inl rfl) (by omega) hD (hI.u0 (by decide) (by decide) (by decide) (by decide))) (jG_v mL_M_223 mI_M_frame mS_M_frame mZ_M mC_M_frame) rfl rfl rfl dd_M_frame ⟨Nat.le_of_ble_eq_true rfl, Nat.le_of_ble_eq_true rfl⟩ 0 rfl rfl rfl rfl (Nat.le_of_ble_eq_true rfl) dM_send_51 ?_
      exact jq_at (hk 54 _ dM_send_54) (congrArg (wM a cI cZ) (by (rw [if_pos hB, nI_clamp (by omega)]; try rfl))) rfl rfl (congrArg (fun z => [Value.int z]) (by (rw [if_pos hB, nI_clamp (by omega)]; try rfl)))
    · refine jq_iload_n (pc := 16) hF 2 dM_send_16 rfl ?_
      refine jq_iconst (pc := 17) hF dM_send_17 ic_m1 ?_
      refine jq_icmp_eq (pc := 18) hF 36 dM_send_18 rfl (fun h18 => ?_) (fun h18 => ?_)
      · have hB : mSendB τ f t = true := by simp [mSendB, h5, h13, h18]
        have hD : okQ 7 t := mDest_ok hI hB
        obtain ⟨k, rfl, hkk⟩ := mHost_at hI h5
        refine jq_aload_n (pc := 36) hF 0 dM_send_36 rfl ?_
        refine jq_iconst (pc := 37) hF dM_send_37 ic_0 ?_
        refine Mp_M_217 (pc := 38) hF dM_send_38 ?_
        refine jq_aload_n (pc := 41) hF 0 dM_send_41 rfl ?_
        refine jq_aload_n (pc := 42) hF 0 dM_send_42 rfl ?_
        refine Mg_M_50 (pc := 43) hF dM_send_43 ?_
        refine jq_iload_n (pc := 46) hF 1 dM_send_46 rfl ?_
        refine Ml_14 (pc := 47) hF (by omega) dM_send_47 ?_
        refine jq_iconst (pc := 48) hF dM_send_48 ic_m1 ?_
        refine jq_iload_n (pc := 49) hF 1 dM_send_49 rfl ?_
        refine jq_iload_n (pc := 50) hF 2 dM_send_50 rfl ?_
        refine jq_cVI (pc := 51) hF (As := [.int ((sU τ 0 11 (nI (0))) 14 (k)), .int (-1), .int (nI k), .int (t)]) (rest := []) (mM_frame l D a cI cZ (sU τ 0 11 (nI (0))) ((sU τ 0 11 (nI (0))) 14 (k)) (-1) (k) (t) (hI.at_ hkk) (Or.inl rfl) (by omega) hD (hI.u0 (by decide) (by decide) (by decide) (by decide))) (jG_v mL_M_223 mI_M_frame mS_M_frame mZ_M mC_M_frame) rfl rfl rfl dd_M_frame ⟨Nat.le_of_ble_eq_true rfl, Nat.le_of_ble_eq_true rfl⟩ 0 rfl rfl rfl rfl (Nat.le_of_ble_eq_true rfl) dM_send_51 ?_
        exact jq_at (hk 54 _ dM_send_54) (congrArg (wM a cI cZ) (by (rw [if_pos hB, nI_clamp (by omega)]; try rfl))) rfl rfl (congrArg (fun z => [Value.int z]) (by (rw [if_pos hB, nI_clamp (by omega)]; try rfl)))
      · refine jq_iload_n (pc := 21) hF 2 dM_send_21 rfl ?_
        refine jq_bipush (pc := 22) hF dM_send_22 bi_6 ?_
        refine jq_icmp_ne (pc := 24) hF 34 dM_send_24 rfl (fun h24 => ?_) (fun h24 => ?_)
        · refine jq_iconst (pc := 34) hF dM_send_34 ic_m1 ?_
          exact jq_at (hk 35 _ dM_send_35) (congrArg (wM a cI cZ) (by exact if_neg (by simp [mSendB, h5, h13, h18, h24]))) rfl rfl (congrArg (fun z => [Value.int z]) (by exact if_neg (by simp [mSendB, h5, h13, h18, h24])))
        · refine jq_aload_n (pc := 27) hF 0 dM_send_27 rfl ?_
          refine Mg_M_56 (pc := 28) hF dM_send_28 ?_
          refine jq_if_ge (pc := 31) hF 36 dM_send_31 rfl (fun h31 => ?_) (fun h31 => ?_)
          · have hB : mSendB τ f t = true := by simp [mSendB, h5, h13, h18, h24, h31]
            have hD : okQ 7 t := mDest_ok hI hB
            obtain ⟨k, rfl, hkk⟩ := mHost_at hI h5
            refine jq_aload_n (pc := 36) hF 0 dM_send_36 rfl ?_
            refine jq_iconst (pc := 37) hF dM_send_37 ic_0 ?_
            refine Mp_M_217 (pc := 38) hF dM_send_38 ?_
            refine jq_aload_n (pc := 41) hF 0 dM_send_41 rfl ?_
            refine jq_aload_n (pc := 42) hF 0 dM_send_42 rfl ?_
            refine Mg_M_50 (pc := 43) hF dM_send_43 ?_
            refine jq_iload_n (pc := 46) hF 1 dM_send_46 rfl ?_
            refine Ml_14 (pc := 47) hF (by omega) dM_send_47 ?_
            refine jq_iconst (pc := 48) hF dM_send_48 ic_m1 ?_
            refine jq_iload_n (pc := 49) hF 1 dM_send_49 rfl ?_
            refine jq_iload_n (pc := 50) hF 2 dM_send_50 rfl ?_
            refine jq_cVI (pc := 51) hF (As := [.int ((sU τ 0 11 (nI (0))) 14 (k)), .int (-1), .int (nI k), .int (t)]) (rest := []) (mM_frame l D a cI cZ (sU τ 0 11 (nI (0))) ((sU τ 0 11 (nI (0))) 14 (k)) (-1) (k) (t) (hI.at_ hkk) (Or.inl rfl) (by omega) hD (hI.u0 (by decide) (by decide) (by decide) (by decide))) (jG_v mL_M_223 mI_M_frame mS_M_frame mZ_M mC_M_frame) rfl rfl rfl dd_M_frame ⟨Nat.le_of_ble_eq_true rfl, Nat.le_of_ble_eq_true rfl⟩ 0 rfl rfl rfl rfl (Nat.le_of_ble_eq_true rfl) dM_send_51 ?_
            exact jq_at (hk 54 _ dM_send_54) (congrArg (wM a cI cZ) (by (rw [if_pos hB, nI_clamp (by omega)]; try rfl))) rfl rfl (congrArg (fun z => [Value.int z]) (by (rw [if_pos hB, nI_clamp (by omega)]; try rfl)))
          · refine jq_iconst (pc := 34) hF dM_send_34 ic_m1 ?_
            exact jq_at (hk 35 _ dM_send_35) (congrArg (wM a cI cZ) (by exact if_neg (by simp [mSendB, h5, h13, h18, h31]))) rfl rfl (congrArg (fun z => [Value.int z]) (by exact if_neg (by simp [mSendB, h5, h13, h18, h31])))
