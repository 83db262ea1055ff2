/-! the class's own methods: guards, and their bounds -/
def cBridgeB (σ : jS) (pr : Int32) : Bool := !decide (nI 6 ≤ σ 1 0) && cWithin pr (nI 0) (nI 7)
def cWireB (σ : jS) (p q c : Int32) : Bool := !decide (nI 10 ≤ σ 1 1) && cIsFree σ p && cIsFree σ q && !decide (p = q) && cWithin c (nI 1) (nI 9)
def cHostB (σ : jS) (p s : Int32) : Bool := !decide (nI 6 ≤ σ 1 2) && cIsFree σ p && cWithin s (nI 0) (nI 3)
def cRouterB (σ : jS) (p : Int32) : Bool := !cHasRouter σ && cIsFree σ p
def cAccessB (σ : jS) (p n : Int32) : Bool := cIsPlace σ p && cWithin n (nI 0) (nI 3)
def cTrunkB (σ : jS) (p n m : Int32) : Bool := cIsPlace σ p && cWithin n (nI 0) (nI 3) && cWithin m (nI 0) (nI 15)
def cCutB (σ : jS) (w : Int32) (off : Bool) : Bool := cWithin w (nI 0) (σ 1 1 - nI 1) && !decide (σ 9 w.toNatClampNeg = bI off)
def cCutS (σ : jS) (w : Int32) (off : Bool) : jS := cSettle (cDrop (cDrop (sU σ 9 w.toNatClampNeg (bI off)) (σ 7 w.toNatClampNeg)) (σ 13 (σ 7 w.toNatClampNeg).toNatClampNeg))
def cHeldB (σ : jS) (p w : Int32) : Bool := cIsPlace σ p && !decide (σ 19 p.toNatClampNeg = 0) && cWithin w (nI 0) (nI 5)
def cLearnedB (σ : jS) (b n x : Int32) : Bool := cIsBridge σ b && cWithin n (nI 0) (nI 3) && cWithin x (nI 0) (nI 6)
def cIsDest (σ : jS) (x : Int32) : Bool := decide (x = -1) || cIsHost σ x || (decide (x = nI 6) && cHasRouter σ)
def cSendB (σ : jS) (f t : Int32) : Bool := cIsHost σ f && cIsDest σ t
theorem cnt_lt {x : Int32} {n : Nat} (h : okP (n + 1) x) (h2 : ¬ nI n ≤ x) (hn : n < 2 ^ 30) : vp_in x n ∧ x = nI x.toNatClampNeg ∧ x.toNatClampNeg < n := by
  obtain ⟨k, hk, rfl⟩ := h
  have : ¬ n ≤ k := fun e => h2 (nI_le e (by omega))
  rw [nI_clamp (by omega)]
  exact ⟨vp_in_nI (by omega) (by omega), rfl, by omega⟩
theorem okP.mono {m n : Nat} {x : Int32} (h : okP m x) (hn : m ≤ n) : okP n x := by
  obtain ⟨k, hk, e⟩ := h
  exact ⟨k, by omega, e⟩
theorem okQ.mono {m n : Nat} {x : Int32} (h : okQ m x) (hn : m ≤ n) : okQ n x := h.imp id (fun q => q.mono hn)
theorem vp_ok {x : Int32} {n : Nat} (h : vp_in x n) (hn : n < 2 ^ 31) : okP n x := vp_in_of h hn
theorem cIsPlace_at {σ : jS} (hI : cInv σ) {p : Int32} (h : cIsPlace σ p = true) : ∃ k, p = nI k ∧ k < 4 * cNb σ := by
  have hn := hI.nbl
  unfold cIsPlace at h
  rw [hn.2, pk_mul] at h
  obtain ⟨k, e, hk⟩ := cWithin_in (m := 24) ⟨4 * cNb σ, by omega, rfl⟩ (by decide) h
  rw [nI_clamp (by omega)] at hk
  exact ⟨k, e, hk⟩
theorem cIsBridge_at {σ : jS} (hI : cInv σ) {b : Int32} (h : cIsBridge σ b = true) : ∃ k, b = nI k ∧ k < cNb σ := by
  have hn := hI.nbl
  unfold cIsBridge at h
  rw [hn.2] at h
  obtain ⟨k, e, hk⟩ := cWithin_in (m := 6) ⟨cNb σ, by omega, rfl⟩ (by decide) h
  rw [nI_clamp (by omega)] at hk
  exact ⟨k, e, hk⟩
theorem cIsHost_at {σ : jS} (hI : cInv σ) {b : Int32} (h : cIsHost σ b = true) : ∃ k, b = nI k ∧ k < (σ 1 2).toNatClampNeg ∧ k < 6 := by
  have hn := hI.nh.cl (by decide)
  unfold cIsHost at h
  obtain ⟨k, e, hk⟩ := cWithin_in (m := 6) hI.nh (by decide) h
  exact ⟨k, e, hk, by omega⟩
theorem cWire_at {σ : jS} (hI : cInv σ) {w : Int32} (h : cWithin w (nI 0) (σ 1 1 - nI 1) = true) : ∃ k, w = nI k ∧ k < (σ 1 1).toNatClampNeg ∧ k < 10 := by
  have hn := hI.nw.cl (by decide)
  obtain ⟨k, e, hk⟩ := cWithin_in (m := 10) hI.nw (by decide) h
  exact ⟨k, e, hk, by omega⟩
theorem cIsFree_place {σ : jS} {p : Int32} (h : cIsFree σ p = true) : cIsPlace σ p = true := by
  unfold cIsFree at h
  simp only [Bool.and_eq_true] at h
  exact h.1.1
theorem cIsDest_ok {σ : jS} (hI : cInv σ) {x : Int32} (h : cIsDest σ x = true) : okQ 7 x := by
  unfold cIsDest at h
  simp only [Bool.or_eq_true, decide_eq_true_eq, Bool.and_eq_true] at h
  rcases h with (h | h) | h
  · exact Or.inl h
  · obtain ⟨k, e, -, hk⟩ := cIsHost_at hI h
    exact Or.inr ⟨k, by omega, e⟩
  · exact Or.inr ⟨6, by decide, h.1⟩
theorem cAddBridge_inv {σ : jS} (hI : cInv σ) (pr : Int32) (h : ¬ nI 6 ≤ σ 1 0) : cInv (cAddBridge σ pr) := by
  obtain ⟨-, e, hk⟩ := cnt_lt hI.nb h (by decide)
  have e0 : cAddBridge σ pr 1 0 = σ 1 0 + nI 1 := rfl
  refine ⟨?_, hI.2⟩
  rw [e0, e, nI_add]
  exact ⟨_, by omega, rfl⟩
theorem okP_set {n m i : Nat} {f : Nat → Int32} {v : Int32} (hf : ∀ j, j < m → okP n (f j)) (hv : okP n v) : ∀ j, j < m → okP n (upd f i v j) := fun j hj => by
  unfold upd
  split
  · exact hv
  · exact hf j hj
theorem okQ_set {n m i : Nat} {f : Nat → Int32} {v : Int32} (hf : ∀ j, j < m → okQ n (f j)) (hv : okQ n v) : ∀ j, j < m → okQ n (upd f i v j) := fun j hj => by
  unfold upd
  split
  · exact hv
  · exact hf j hj
theorem cAddHost_inv {σ : jS} (hI : cInv σ) {p sn : Int32} (h : ¬ nI 6 ≤ σ 1 2) (hp : okP 24 p) (hs : okP 4 sn) : cInv (cAddHost σ p sn) := by
  obtain ⟨-, e, hk⟩ := cnt_lt hI.nh h (by decide)
  have e0 : cAddHost σ p sn 1 2 = σ 1 2 + nI 1 := rfl
  refine ⟨hI.1, hI.2.1, ?_, hI.2.2.2.1, hI.2.2.2.2.1, okP_set hI.2.2.2.2.2.1 hp, okP_set hI.2.2.2.2.2.2.1 hs, hI.2.2.2.2.2.2.2⟩
  rw [e0, e, nI_add]
  exact ⟨_, by omega, rfl⟩
theorem cAddRouter_inv {σ : jS} (hI : cInv σ) {p : Int32} (hp : okP 24 p) : cInv (cAddRouter σ p) := ⟨hI.1, hI.2.1, hI.2.2.1, Or.inr hp, hI.2.2.2.2⟩
theorem cAccess_inv {σ : jS} (hI : cInv σ) {p nw : Int32} (hn : okP 4 nw) : cInv (cAccess σ p nw) :=
  ⟨hI.1, hI.2.1, hI.2.2.1, hI.2.2.2.1, hI.2.2.2.2.1, hI.2.2.2.2.2.1, hI.2.2.2.2.2.2.1, hI.2.2.2.2.2.2.2.1, hI.2.2.2.2.2.2.2.2.1, okP_set hI.2.2.2.2.2.2.2.2.2.1 hn, hI.2.2.2.2.2.2.2.2.2.2⟩
theorem cTrunk_inv {σ : jS} (hI : cInv σ) {p nw mb : Int32} (hn : okP 4 nw) : cInv (cTrunk σ p nw mb) :=
  ⟨hI.1, hI.2.1, hI.2.2.1, hI.2.2.2.1, hI.2.2.2.2.1, hI.2.2.2.2.2.1, hI.2.2.2.2.2.2.1, hI.2.2.2.2.2.2.2.1, hI.2.2.2.2.2.2.2.2.1, okP_set hI.2.2.2.2.2.2.2.2.2.1 hn, hI.2.2.2.2.2.2.2.2.2.2⟩
theorem cAddWire_inv {σ : jS} (hI : cInv σ) {p q c : Int32} (h : ¬ nI 10 ≤ σ 1 1) (hp : okP 24 p) (hq : okP 24 q) : cInv (cAddWire σ p q c) := by
  obtain ⟨-, e, hk⟩ := cnt_lt hI.nw h (by decide)
  have e1 : cAddWire σ p q c 1 1 = σ 1 1 + nI 1 := rfl
  have hw : okP 10 (σ 1 1) := ⟨_, hk, e⟩
  have e7 : ∀ w, cAddWire σ p q c 7 w = upd (σ 7) (σ 1 1).toNatClampNeg p w := fun _ => rfl
  have e12 : ∀ x, cAddWire σ p q c 12 x = upd (upd (σ 12) p.toNatClampNeg (σ 1 1)) q.toNatClampNeg (σ 1 1) x := fun _ => rfl
  have e13 : ∀ x, cAddWire σ p q c 13 x = upd (upd (σ 13) p.toNatClampNeg q) q.toNatClampNeg p x := fun _ => rfl
  have hfar : ∀ x, okP 24 (σ 13 x) → okP 24 (upd (upd (σ 13) p.toNatClampNeg q) q.toNatClampNeg p x) := by
    intro x hx
    unfold upd
    split
    · exact hp
    · split
      · exact hq
      · exact hx
  have hfp : ∀ x, x = p.toNatClampNeg ∨ x = q.toNatClampNeg → okP 24 (upd (upd (σ 13) p.toNatClampNeg q) q.toNatClampNeg p x) := by
    intro x hx
    unfold upd
    split
    · exact hp
    · rename_i h1
      split
      · exact hq
      · rename_i h2
        exact absurd hx (fun e => e.elim h2 h1)
  refine ⟨hI.1, ?_, hI.2.2.1, hI.2.2.2.1, okP_set hI.2.2.2.2.1 hp, hI.2.2.2.2.2.1, hI.2.2.2.2.2.2.1, okQ_set (okQ_set hI.2.2.2.2.2.2.2.1 (Or.inr hw)) (Or.inr hw), okQ_set (okQ_set hI.2.2.2.2.2.2.2.2.1 (Or.inr hq)) (Or.inr hp), hI.2.2.2.2.2.2.2.2.2.1, hI.2.2.2.2.2.2.2.2.2.2.1, hI.2.2.2.2.2.2.2.2.2.2.2.1, hI.2.2.2.2.2.2.2.2.2.2.2.2.1, ?_, ?_⟩
  · rw [e1, e, nI_add]
    exact ⟨_, by omega, rfl⟩
  · intro x hx hne
    rw [e12] at hne
    rw [e13]
    by_cases hx2 : x = p.toNatClampNeg ∨ x = q.toNatClampNeg
    · exact hfp x hx2
    · apply hfar
      refine hI.wf hx (fun e2 => hne ?_)
      unfold upd
      rw [if_neg (fun e => hx2 (Or.inr e)), if_neg (fun e => hx2 (Or.inl e))]
      exact e2
  · intro w hw2
    rw [e1, e, nI_add, nI_clamp (by omega)] at hw2
    rw [e7, e13]
    by_cases hx : w = (σ 1 1).toNatClampNeg
    · apply hfp
      left
      unfold upd
      rw [if_pos hx]
    · have : upd (σ 7) (σ 1 1).toNatClampNeg p w = σ 7 w := by unfold upd; rw [if_neg hx]
      rw [this]
      exact hfar _ (hI.we (by omega))

theorem cWire_in {σ : jS} (hI : cInv σ) {w : Int32} (h : cWithin w (nI 0) (σ 1 1 - nI 1) = true) : vp_in w 10 := by
  obtain ⟨k, rfl, -, hk⟩ := cWire_at hI h
  exact vp_in_nI hk (by decide)
theorem cEnd_ok {σ : jS} (hI : cInv σ) {w : Int32} (h : cWithin w (nI 0) (σ 1 1 - nI 1) = true) : okP 24 (σ 7 w.toNatClampNeg) := by
  obtain ⟨k, rfl, -, hk⟩ := cWire_at hI h
  rw [nI_clamp (by omega)]
  exact hI.ends hk
theorem cFar_ok {σ : jS} (hI : cInv σ) {w : Int32} (h : cWithin w (nI 0) (σ 1 1 - nI 1) = true) : okP 24 (σ 13 (σ 7 w.toNatClampNeg).toNatClampNeg) := by
  obtain ⟨k, rfl, hk, hk2⟩ := cWire_at hI h
  rw [nI_clamp (by omega)]
  exact hI.we hk
theorem net_ok {n : Int32} (h : cWithin n (nI 0) (nI 3) = true) : okP 4 n := by
  obtain ⟨k, hk, e⟩ := cWithin_le (m := 3) (by decide) h
  exact ⟨k, by omega, e⟩
set_option maxHeartbeats 4000000 in
set_option maxRecDepth 100000 in
theorem mN_bridge (l : Launch) (D : va_G) (a : Nat → Nat) (cI cZ : ClassId) (σ : jS) (pr : Int32) (hI : cInv σ) : jI l yN_bridge w_N_bridge (rmD 5) D (jTys cI cZ) [.ref (a 0), .int (pr)] (wC a cI cZ σ) (wC a cI cZ (if cBridgeB σ pr = true then cSettle (cAddBridge σ pr) else σ)) (if cBridgeB σ pr = true then σ 1 0 else -1) := by
  refine jI_of (ws' := jG) rfl (by decide) rfl (Nat.le_of_ble_eq_true rfl) ?_
  intro X hF hk
  show jJ l D (rmD 5) 3 X (wC a cI cZ σ) 0 [(0, .ref (a 0)), (1, .int (pr))] []
  refine jq_aload_n (pc := 0) hF 0 dN_bridge_0 rfl ?_
  refine Cg_N_20 (pc := 1) hF dN_bridge_1 ?_
  refine Cg_N_59 (pc := 4) hF dN_bridge_4 ?_
  refine jq_bipush (pc := 7) hF dN_bridge_7 bi_6 ?_
  refine jq_icmp_ge (pc := 9) hF 22 dN_bridge_9 rfl (fun h9 => ?_) (fun h9 => ?_)
  · refine jq_iconst (pc := 22) hF dN_bridge_22 ic_m1 ?_
    exact jq_at (hk 23 _ dN_bridge_23) (congrArg (wC a cI cZ) (by exact if_neg (by simp [cBridgeB, h9]))) rfl rfl (congrArg (fun z => [Value.int z]) (by exact if_neg (by simp [cBridgeB, h9])))
  · refine jq_iload_n (pc := 12) hF 1 dN_bridge_12 rfl ?_
    refine jq_iconst (pc := 13) hF dN_bridge_13 ic_0 ?_
    refine jq_bipush (pc := 14) hF dN_bridge_14 bi_7 ?_
    refine jq_cSI (pc := 16) hF (As := [.int (pr), .int (nI 0), .int (nI 7)]) (rest := []) (mN_isWithin l D a cI cZ σ (pr) (nI (0)) (nI (7)) ) (jG_st mL_N_62 mT_N_isWithin mZ_N mC_N_isWithin) rfl rfl rfl dd_N_isWithin ⟨Nat.le_of_ble_eq_true rfl, Nat.le_of_ble_eq_true rfl⟩ rfl rfl (Nat.le_of_ble_eq_true rfl) dN_bridge_16 ?_
    refine jq_if_neB (pc := 19) hF 24 dN_bridge_19 rfl (fun h19 => ?_) (fun h19 => ?_)
    · refine jq_aload_n (pc := 24) hF 0 dN_bridge_24 rfl ?_
      refine Cg_N_20 (pc := 25) hF dN_bridge_25 ?_
      refine jq_iload_n (pc := 28) hF 1 dN_bridge_28 rfl ?_
      refine jq_cVI (pc := 29) hF (As := [.int (pr)]) (rest := []) (mP_addBridge l D a cI cZ σ (pr) (cnt_lt hI.nb h9 (by decide)).1) (jG_v mL_N_66 mI_P_addBridge mS_P_addBridge mZ_P mC_P_addBridge) rfl rfl rfl dd_P_addBridge ⟨Nat.le_of_ble_eq_true rfl, Nat.le_of_ble_eq_true rfl⟩ 1 rfl rfl rfl rfl (Nat.le_of_ble_eq_true rfl) dN_bridge_29 ?_
      refine jq_istore_n (pc := 32) hF [(2, .int (σ 1 0)), (0, .ref (a 0)), (1, .int (pr))] dN_bridge_32 (Nat.le_of_ble_eq_true rfl) rfl ?_
      refine jq_aload_n (pc := 33) hF 1 dN_bridge_33 rfl ?_
      refine Cg_N_36 (pc := 34) hF dN_bridge_34 ?_
      refine jq_cVV (pc := 37) hF (As := []) (rest := []) (mT_settle l D a cI cZ (cAddBridge σ (pr))  (cAddBridge_inv hI pr h9)) (jG_v mL_N_70 mI_T_settle mS_T_settle mZ_T mC_T_settle) rfl rfl rfl dd_T_settle ⟨Nat.le_of_ble_eq_true rfl, Nat.le_of_ble_eq_true rfl⟩ 3 rfl rfl rfl rfl (Nat.le_of_ble_eq_true rfl) dN_bridge_37 ?_
      refine jq_iload_n (pc := 40) hF 0 dN_bridge_40 rfl ?_
      exact jq_at (hk 41 _ dN_bridge_41) (congrArg (wC a cI cZ) (by exact if_pos (by simp [cBridgeB, h9, h19]))) rfl rfl (congrArg (fun z => [Value.int z]) (by exact if_pos (by simp [cBridgeB, h9, h19])))
    · refine jq_iconst (pc := 22) hF dN_bridge_22 ic_m1 ?_
      exact jq_at (hk 23 _ dN_bridge_23) (congrArg (wC a cI cZ) (by exact if_neg (by simp [cBridgeB, h9, h19]))) rfl rfl (congrArg (fun z => [Value.int z]) (by exact if_neg (by simp [cBridgeB, h9, h19])))
set_option maxHeartbeats 4000000 in
set_option maxRecDepth 100000 in
theorem mN_wire (l : Launch) (D : va_G) (a : Nat → Nat) (cI cZ : ClassId) (σ : jS) (p : Int32) (q : Int32) (c : Int32) (hI : cInv σ) : jI l yN_wire w_N_wire (rmD 5) D (jTys cI cZ) [.ref (a 0), .int (p), .int (q), .int (c)] (wC a cI cZ σ) (wC a cI cZ (if cWireB σ p q c = true then cSettle (cAddWire σ p q c) else σ)) (if cWireB σ p q c = true then σ 1 1 else -1) := by
  refine jI_of (ws' := jG) rfl (by decide) rfl (Nat.le_of_ble_eq_true rfl) ?_
  intro X hF hk
  show jJ l D (rmD 5) 5 X (wC a cI cZ σ) 0 [(0, .ref (a 0)), (1, .int (p)), (2, .int (q)), (3, .int (c))] []
  refine jq_aload_n (pc := 0) hF 0 dN_wire_0 rfl ?_
  refine Cg_N_20 (pc := 1) hF dN_wire_1 ?_
  refine Cg_N_73 (pc := 4) hF dN_wire_4 ?_
  refine jq_bipush (pc := 7) hF dN_wire_7 bi_10 ?_
  refine jq_icmp_ge (pc := 9) hF 34 dN_wire_9 rfl (fun h9 => ?_) (fun h9 => ?_)
  · refine jq_iconst (pc := 34) hF dN_wire_34 ic_m1 ?_
    exact jq_at (hk 35 _ dN_wire_35) (congrArg (wC a cI cZ) (by exact if_neg (by simp [cWireB, h9]))) rfl rfl (congrArg (fun z => [Value.int z]) (by exact if_neg (by simp [cWireB, h9])))
  · refine jq_aload_n (pc := 12) hF 0 dN_wire_12 rfl ?_
    refine Cg_N_20 (pc := 13) hF dN_wire_13 ?_
    refine jq_iload_n (pc := 16) hF 1 dN_wire_16 rfl ?_
    refine jq_cVI (pc := 17) hF (As := [.int (p)]) (rest := []) (mP_isFree l D a cI cZ σ (p) hI) (jG_v mL_N_76 mI_P_isFree mS_P_isFree mZ_P mC_P_isFree) rfl rfl rfl dd_P_isFree ⟨Nat.le_of_ble_eq_true rfl, Nat.le_of_ble_eq_true rfl⟩ 1 rfl rfl rfl rfl (Nat.le_of_ble_eq_true rfl) dN_wire_17 ?_
    refine jq_if_eqB (pc := 20) hF 34 dN_wire_20 rfl (fun h20 => ?_) (fun h20 => ?_)
    · refine jq_iconst (pc := 34) hF dN_wire_34 ic_m1 ?_
      exact jq_at (hk 35 _ dN_wire_35) (congrArg (wC a cI cZ) (by exact if_neg (by simp [cWireB, h9, h20]))) rfl rfl (congrArg (fun z => [Value.int z]) (by exact if_neg (by simp [cWireB, h9, h20])))
    · refine jq_aload_n (pc := 23) hF 0 dN_wire_23 rfl ?_
      refine Cg_N_20 (pc := 24) hF dN_wire_24 ?_
      refine jq_iload_n (pc := 27) hF 2 dN_wire_27 rfl ?_
      refine jq_cVI (pc := 28) hF (As := [.int (q)]) (rest := []) (mP_isFree l D a cI cZ σ (q) hI) (jG_v mL_N_76 mI_P_isFree mS_P_isFree mZ_P mC_P_isFree) rfl rfl rfl dd_P_isFree ⟨Nat.le_of_ble_eq_true rfl, Nat.le_of_ble_eq_true rfl⟩ 1 rfl rfl rfl rfl (Nat.le_of_ble_eq_true rfl) dN_wire_28 ?_
      refine jq_if_neB (pc := 31) hF 36 dN_wire_31 rfl (fun h31 => ?_) (fun h31 => ?_)
      · refine jq_iload_n (pc := 36) hF 1 dN_wire_36 rfl ?_
        refine jq_iload_n (pc := 37) hF 2 dN_wire_37 rfl ?_
        refine jq_icmp_eq (pc := 38) hF 51 dN_wire_38 rfl (fun h38 => ?_) (fun h38 => ?_)
        · refine jq_iconst (pc := 51) hF dN_wire_51 ic_m1 ?_
          exact jq_at (hk 52 _ dN_wire_52) (congrArg (wC a cI cZ) (by exact if_neg (by simp [cWireB, h9, h20, h31, h38]))) rfl rfl (congrArg (fun z => [Value.int z]) (by exact if_neg (by simp [cWireB, h9, h20, h31, h38])))
        · refine jq_iload_n (pc := 41) hF 3 dN_wire_41 rfl ?_
          refine jq_iconst (pc := 42) hF dN_wire_42 ic_1 ?_
          refine jq_bipush (pc := 43) hF dN_wire_43 bi_9 ?_
          refine jq_cSI (pc := 45) hF (As := [.int (c), .int (nI 1), .int (nI 9)]) (rest := []) (mN_isWithin l D a cI cZ σ (c) (nI (1)) (nI (9)) ) (jG_st mL_N_62 mT_N_isWithin mZ_N mC_N_isWithin) rfl rfl rfl dd_N_isWithin ⟨Nat.le_of_ble_eq_true rfl, Nat.le_of_ble_eq_true rfl⟩ rfl rfl (Nat.le_of_ble_eq_true rfl) dN_wire_45 ?_
          refine jq_if_neB (pc := 48) hF 53 dN_wire_48 rfl (fun h48 => ?_) (fun h48 => ?_)
          · refine jq_aload_n (pc := 53) hF 0 dN_wire_53 rfl ?_
            refine Cg_N_20 (pc := 54) hF dN_wire_54 ?_
            refine jq_iload_n (pc := 57) hF 1 dN_wire_57 rfl ?_
            refine jq_iload_n (pc := 58) hF 2 dN_wire_58 rfl ?_
            refine jq_iload_n (pc := 59) hF 3 dN_wire_59 rfl ?_
            refine jq_cVI (pc := 60) hF (As := [.int (p), .int (q), .int (c)]) (rest := []) (mP_addWire l D a cI cZ σ (p) (q) (c) (cnt_lt hI.nw h9 (by decide)).1 (cIsPlace_in hI (cIsFree_place h20)) (cIsPlace_in hI (cIsFree_place h31))) (jG_v mL_N_80 mI_P_addWire mS_P_addWire mZ_P mC_P_addWire) rfl rfl rfl dd_P_addWire ⟨Nat.le_of_ble_eq_true rfl, Nat.le_of_ble_eq_true rfl⟩ 1 rfl rfl rfl rfl (Nat.le_of_ble_eq_true rfl) dN_wire_60 ?_
            refine jq_istore (pc := 63) hF [(4, .int (σ 1 1)), (0, .ref (a 0)), (1, .int (p)), (2, .int (q)), (3, .int (c))] dN_wire_63 (Nat.le_of_ble_eq_true rfl) rfl ?_
            refine jq_aload_n (pc := 65) hF 1 dN_wire_65 rfl ?_
            refine Cg_N_36 (pc := 66) hF dN_wire_66 ?_
            refine jq_cVV (pc := 69) hF (As := []) (rest := []) (mT_settle l D a cI cZ (cAddWire σ (p) (q) (c))  (cAddWire_inv hI h9 (vp_ok (cIsPlace_in hI (cIsFree_place h20)) (by decide)) (vp_ok (cIsPlace_in hI (cIsFree_place h31)) (by decide)))) (jG_v mL_N_70 mI_T_settle mS_T_settle mZ_T mC_T_settle) rfl rfl rfl dd_T_settle ⟨Nat.le_of_ble_eq_true rfl, Nat.le_of_ble_eq_true rfl⟩ 3 rfl rfl rfl rfl (Nat.le_of_ble_eq_true rfl) dN_wire_69 ?_
            refine jq_iload (pc := 72) hF 0 dN_wire_72 rfl ?_
            exact jq_at (hk 74 _ dN_wire_74) (congrArg (wC a cI cZ) (by exact if_pos (by simp [cWireB, h9, h20, h31, h38, h48]))) rfl rfl (congrArg (fun z => [Value.int z]) (by exact if_pos (by simp [cWireB, h9, h20, h31, h38, h48])))
          · refine jq_iconst (pc := 51) hF dN_wire_51 ic_m1 ?_
            exact jq_at (hk 52 _ dN_wire_52) (congrArg (wC a cI cZ) (by exact if_neg (by simp [cWireB, h9, h20, h31, h38, h48]))) rfl rfl (congrArg (fun z => [Value.int z]) (by exact if_neg (by simp [cWireB, h9, h20, h31, h38, h48])))
      · refine jq_iconst (pc := 34) hF dN_wire_34 ic_m1 ?_
        exact jq_at (hk 35 _ dN_wire_35) (congrArg (wC a cI cZ) (by exact if_neg (by simp [cWireB, h9, h20, h31]))) rfl rfl (congrArg (fun z => [Value.int z]) (by exact if_neg (by simp [cWireB, h9, h20, h31])))
set_option maxHeartbeats 4000000 in
set_option maxRecDepth 100000 in
theorem mN_host (l : Launch) (D : va_G) (a : Nat → Nat) (cI cZ : ClassId) (σ : jS) (p : Int32) (sn : Int32) (hI : cInv σ) : jI l yN_host w_N_host (rmD 5) D (jTys cI cZ) [.ref (a 0), .int (p), .int (sn)] (wC a cI cZ σ) (wC a cI cZ (if cHostB σ p sn = true then cSettle (cAddHost σ p sn) else σ)) (if cHostB σ p sn = true then σ 1 2 else -1) := by
  refine jI_of (ws' := jG) rfl (by decide) rfl (Nat.le_of_ble_eq_true rfl) ?_
  intro X hF hk
  show jJ l D (rmD 5) 4 X (wC a cI cZ σ) 0 [(0, .ref (a 0)), (1, .int (p)), (2, .int (sn))] []
  refine jq_aload_n (pc := 0) hF 0 dN_host_0 rfl ?_
  refine Cg_N_20 (pc := 1) hF dN_host_1 ?_
  refine Cg_N_83 (pc := 4) hF dN_host_4 ?_
  refine jq_bipush (pc := 7) hF dN_host_7 bi_6 ?_
  refine jq_icmp_ge (pc := 9) hF 30 dN_host_9 rfl (fun h9 => ?_) (fun h9 => ?_)
  · refine jq_iconst (pc := 30) hF dN_host_30 ic_m1 ?_
    exact jq_at (hk 31 _ dN_host_31) (congrArg (wC a cI cZ) (by exact if_neg (by simp [cHostB, h9]))) rfl rfl (congrArg (fun z => [Value.int z]) (by exact if_neg (by simp [cHostB, h9])))
  · refine jq_aload_n (pc := 12) hF 0 dN_host_12 rfl ?_
    refine Cg_N_20 (pc := 13) hF dN_host_13 ?_
    refine jq_iload_n (pc := 16) hF 1 dN_host_16 rfl ?_
    refine jq_cVI (pc := 17) hF (As := [.int (p)]) (rest := []) (mP_isFree l D a cI cZ σ (p) hI) (jG_v mL_N_76 mI_P_isFree mS_P_isFree mZ_P mC_P_isFree) rfl rfl rfl dd_P_isFree ⟨Nat.le_of_ble_eq_true rfl, Nat.le_of_ble_eq_true rfl⟩ 1 rfl rfl rfl rfl (Nat.le_of_ble_eq_true rfl) dN_host_17 ?_
    refine jq_if_eqB (pc := 20) hF 30 dN_host_20 rfl (fun h20 => ?_) (fun h20 => ?_)
    · refine jq_iconst (pc := 30) hF dN_host_30 ic_m1 ?_
      exact jq_at (hk 31 _ dN_host_31) (congrArg (wC a cI cZ) (by exact if_neg (by simp [cHostB, h9, h20]))) rfl rfl (congrArg (fun z => [Value.int z]) (by exact if_neg (by simp [cHostB, h9, h20])))
    · refine jq_iload_n (pc := 23) hF 2 dN_host_23 rfl ?_
      refine jq_cSI (pc := 24) hF (As := [.int (sn)]) (rest := []) (mN_isNetwork l D a cI cZ σ (sn) ) (jG_st mL_N_86 mT_N_isNetwork mZ_N mC_N_isNetwork) rfl rfl rfl dd_N_isNetwork ⟨Nat.le_of_ble_eq_true rfl, Nat.le_of_ble_eq_true rfl⟩ rfl rfl (Nat.le_of_ble_eq_true rfl) dN_host_24 ?_
      refine jq_if_neB (pc := 27) hF 32 dN_host_27 rfl (fun h27 => ?_) (fun h27 => ?_)
      · refine jq_aload_n (pc := 32) hF 0 dN_host_32 rfl ?_
        refine Cg_N_20 (pc := 33) hF dN_host_33 ?_
        refine jq_iload_n (pc := 36) hF 1 dN_host_36 rfl ?_
        refine jq_iload_n (pc := 37) hF 2 dN_host_37 rfl ?_
        refine jq_cVI (pc := 38) hF (As := [.int (p), .int (sn)]) (rest := []) (mP_addHost l D a cI cZ σ (p) (sn) (cnt_lt hI.nh h9 (by decide)).1 (cIsPlace_in hI (cIsFree_place h20))) (jG_v mL_N_89 mI_P_addHost mS_P_addHost mZ_P mC_P_addHost) rfl rfl rfl dd_P_addHost ⟨Nat.le_of_ble_eq_true rfl, Nat.le_of_ble_eq_true rfl⟩ 1 rfl rfl rfl rfl (Nat.le_of_ble_eq_true rfl) dN_host_38 ?_
        refine jq_istore_n (pc := 41) hF [(3, .int (σ 1 2)), (0, .ref (a 0)), (1, .int (p)), (2, .int (sn))] dN_host_41 (Nat.le_of_ble_eq_true rfl) rfl ?_
        refine jq_aload_n (pc := 42) hF 1 dN_host_42 rfl ?_
        refine Cg_N_36 (pc := 43) hF dN_host_43 ?_
        refine jq_cVV (pc := 46) hF (As := []) (rest := []) (mT_settle l D a cI cZ (cAddHost σ (p) (sn))  (cAddHost_inv hI h9 (vp_ok (cIsPlace_in hI (cIsFree_place h20)) (by decide)) (net_ok h27))) (jG_v mL_N_70 mI_T_settle mS_T_settle mZ_T mC_T_settle) rfl rfl rfl dd_T_settle ⟨Nat.le_of_ble_eq_true rfl, Nat.le_of_ble_eq_true rfl⟩ 3 rfl rfl rfl rfl (Nat.le_of_ble_eq_true rfl) dN_host_46 ?_
        refine jq_iload_n (pc := 49) hF 0 dN_host_49 rfl ?_
        exact jq_at (hk 50 _ dN_host_50) (congrArg (wC a cI cZ) (by exact if_pos (by simp [cHostB, h9, h20, h27]))) rfl rfl (congrArg (fun z => [Value.int z]) (by exact if_pos (by simp [cHostB, h9, h20, h27])))
      · refine jq_iconst (pc := 30) hF dN_host_30 ic_m1 ?_
        exact jq_at (hk 31 _ dN_host_31) (congrArg (wC a cI cZ) (by exact if_neg (by simp [cHostB, h9, h20, h27]))) rfl rfl (congrArg (fun z => [Value.int z]) (by exact if_neg (by simp [cHostB, h9, h20, h27])))
set_option maxHeartbeats 4000000 in
set_option maxRecDepth 100000 in
theorem mN_router (l : Launch) (D : va_G) (a : Nat → Nat) (cI cZ : ClassId) (σ : jS) (p : Int32) (hI : cInv σ) : jI l yN_router w_N_router (rmD 5) D (jTys cI cZ) [.ref (a 0), .int (p)] (wC a cI cZ σ) (wC a cI cZ (if cRouterB σ p = true then cSettle (cAddRouter σ p) else σ)) (bI (cRouterB σ p)) := by
  refine jI_of (ws' := jG) (bI_nw _) (by decide) rfl (Nat.le_of_ble_eq_true rfl) ?_
  intro X hF hk
  show jJ l D (rmD 5) 2 X (wC a cI cZ σ) 0 [(0, .ref (a 0)), (1, .int (p))] []
  refine jq_aload_n (pc := 0) hF 0 dN_router_0 rfl ?_
  refine Cg_N_20 (pc := 1) hF dN_router_1 ?_
  refine jq_cVI (pc := 4) hF (As := []) (rest := []) (mP_hasRouter l D a cI cZ σ  ) (jG_v mL_N_93 mI_P_hasRouter mS_P_hasRouter mZ_P mC_P_hasRouter) rfl rfl rfl dd_P_hasRouter ⟨Nat.le_of_ble_eq_true rfl, Nat.le_of_ble_eq_true rfl⟩ 1 rfl rfl rfl rfl (Nat.le_of_ble_eq_true rfl) dN_router_4 ?_
  refine jq_if_neB (pc := 7) hF 21 dN_router_7 rfl (fun h7 => ?_) (fun h7 => ?_)
  · refine jq_iconst (pc := 21) hF dN_router_21 ic_0 ?_
    exact jq_at (hk 22 _ dN_router_22) (congrArg (wC a cI cZ) (by exact if_neg (by simp [cRouterB, h7]))) rfl rfl (congrArg (fun z => [Value.int z]) (bI0 (by simp [cRouterB, h7])))
  · refine jq_aload_n (pc := 10) hF 0 dN_router_10 rfl ?_
    refine Cg_N_20 (pc := 11) hF dN_router_11 ?_
    refine jq_iload_n (pc := 14) hF 1 dN_router_14 rfl ?_
    refine jq_cVI (pc := 15) hF (As := [.int (p)]) (rest := []) (mP_isFree l D a cI cZ σ (p) hI) (jG_v mL_N_76 mI_P_isFree mS_P_isFree mZ_P mC_P_isFree) rfl rfl rfl dd_P_isFree ⟨Nat.le_of_ble_eq_true rfl, Nat.le_of_ble_eq_true rfl⟩ 1 rfl rfl rfl rfl (Nat.le_of_ble_eq_true rfl) dN_router_15 ?_
    refine jq_if_neB (pc := 18) hF 23 dN_router_18 rfl (fun h18 => ?_) (fun h18 => ?_)
    · refine jq_aload_n (pc := 23) hF 0 dN_router_23 rfl ?_
      refine Cg_N_20 (pc := 24) hF dN_router_24 ?_
      refine jq_iload_n (pc := 27) hF 1 dN_router_27 rfl ?_
      refine jq_cVV (pc := 28) hF (As := [.int (p)]) (rest := []) (mP_addRouter l D a cI cZ σ (p) (cIsPlace_in hI (cIsFree_place h18))) (jG_v mL_N_97 mI_P_addRouter mS_P_addRouter mZ_P mC_P_addRouter) rfl rfl rfl dd_P_addRouter ⟨Nat.le_of_ble_eq_true rfl, Nat.le_of_ble_eq_true rfl⟩ 1 rfl rfl rfl rfl (Nat.le_of_ble_eq_true rfl) dN_router_28 ?_
      refine jq_aload_n (pc := 31) hF 0 dN_router_31 rfl ?_
      refine Cg_N_36 (pc := 32) hF dN_router_32 ?_
      refine jq_cVV (pc := 35) hF (As := []) (rest := []) (mT_settle l D a cI cZ (cAddRouter σ (p))  (cAddRouter_inv hI (vp_ok (cIsPlace_in hI (cIsFree_place h18)) (by decide)))) (jG_v mL_N_70 mI_T_settle mS_T_settle mZ_T mC_T_settle) rfl rfl rfl dd_T_settle ⟨Nat.le_of_ble_eq_true rfl, Nat.le_of_ble_eq_true rfl⟩ 3 rfl rfl rfl rfl (Nat.le_of_ble_eq_true rfl) dN_router_35 ?_
      refine jq_iconst (pc := 38) hF dN_router_38 ic_1 ?_
      exact jq_at (hk 39 _ dN_router_39) (congrArg (wC a cI cZ) (by exact if_pos (by simp [cRouterB, h7, h18]))) rfl rfl (congrArg (fun z => [Value.int z]) (bI1 (by simp [cRouterB, h7, h18])))
    · refine jq_iconst (pc := 21) hF dN_router_21 ic_0 ?_
      exact jq_at (hk 22 _ dN_router_22) (congrArg (wC a cI cZ) (by exact if_neg (by simp [cRouterB, h7, h18]))) rfl rfl (congrArg (fun z => [Value.int z]) (bI0 (by simp [cRouterB, h7, h18])))
set_option maxHeartbeats 4000000 in
set_option maxRecDepth 100000 in
theorem mN_access (l : Launch) (D : va_G) (a : Nat → Nat) (cI cZ : ClassId) (σ : jS) (p : Int32) (nw : Int32) (hI : cInv σ) : jI l yN_access w_N_access (rmD 2) D (jTys cI cZ) [.ref (a 0), .int (p), .int (nw)] (wC a cI cZ σ) (wC a cI cZ (if cAccessB σ p nw = true then cAccess σ p nw else σ)) (bI (cAccessB σ p nw)) := by
  refine jI_of (ws' := jG) (bI_nw _) (by decide) rfl (Nat.le_of_ble_eq_true rfl) ?_
  intro X hF hk
  show jJ l D (rmD 2) 3 X (wC a cI cZ σ) 0 [(0, .ref (a 0)), (1, .int (p)), (2, .int (nw))] []
  refine jq_aload_n (pc := 0) hF 0 dN_access_0 rfl ?_
  refine Cg_N_20 (pc := 1) hF dN_access_1 ?_
  refine jq_iload_n (pc := 4) hF 1 dN_access_4 rfl ?_
  refine jq_cVI (pc := 5) hF (As := [.int (p)]) (rest := []) (mP_isPlace l D a cI cZ σ (p) ) (jG_v mL_N_101 mI_P_isPlace mS_P_isPlace mZ_P mC_P_isPlace) rfl rfl rfl dd_P_isPlace ⟨Nat.le_of_ble_eq_true rfl, Nat.le_of_ble_eq_true rfl⟩ 1 rfl rfl rfl rfl (Nat.le_of_ble_eq_true rfl) dN_access_5 ?_
  refine jq_if_eqB (pc := 8) hF 18 dN_access_8 rfl (fun h8 => ?_) (fun h8 => ?_)
  · refine jq_iconst (pc := 18) hF dN_access_18 ic_0 ?_
    exact jq_at (hk 19 _ dN_access_19) (congrArg (wC a cI cZ) (by exact if_neg (by simp [cAccessB, h8]))) rfl rfl (congrArg (fun z => [Value.int z]) (bI0 (by simp [cAccessB, h8])))
  · refine jq_iload_n (pc := 11) hF 2 dN_access_11 rfl ?_
    refine jq_cSI (pc := 12) hF (As := [.int (nw)]) (rest := []) (mN_isNetwork l D a cI cZ σ (nw) ) (jG_st mL_N_86 mT_N_isNetwork mZ_N mC_N_isNetwork) rfl rfl rfl dd_N_isNetwork ⟨Nat.le_of_ble_eq_true rfl, Nat.le_of_ble_eq_true rfl⟩ rfl rfl (Nat.le_of_ble_eq_true rfl) dN_access_12 ?_
    refine jq_if_neB (pc := 15) hF 20 dN_access_15 rfl (fun h15 => ?_) (fun h15 => ?_)
    · refine jq_aload_n (pc := 20) hF 0 dN_access_20 rfl ?_
      refine Cg_N_27 (pc := 21) hF dN_access_21 ?_
      refine jq_iload_n (pc := 24) hF 1 dN_access_24 rfl ?_
      refine jq_iload_n (pc := 25) hF 2 dN_access_25 rfl ?_
      refine jq_cVV (pc := 26) hF (As := [.int (p), .int (nw)]) (rest := []) (mW_makeAccess l D a cI cZ σ (p) (nw) (cIsPlace_in hI h8)) (jG_v mL_N_104 mI_W_makeAccess mS_W_makeAccess mZ_W mC_W_makeAccess) rfl rfl rfl dd_W_makeAccess ⟨Nat.le_of_ble_eq_true rfl, Nat.le_of_ble_eq_true rfl⟩ 2 rfl rfl rfl rfl (Nat.le_of_ble_eq_true rfl) dN_access_26 ?_
      refine jq_iconst (pc := 29) hF dN_access_29 ic_1 ?_
      exact jq_at (hk 30 _ dN_access_30) (congrArg (wC a cI cZ) (by exact if_pos (by simp [cAccessB, h8, h15]))) rfl rfl (congrArg (fun z => [Value.int z]) (bI1 (by simp [cAccessB, h8, h15])))
    · refine jq_iconst (pc := 18) hF dN_access_18 ic_0 ?_
      exact jq_at (hk 19 _ dN_access_19) (congrArg (wC a cI cZ) (by exact if_neg (by simp [cAccessB, h8, h15]))) rfl rfl (congrArg (fun z => [Value.int z]) (bI0 (by simp [cAccessB, h8, h15])))
set_option maxHeartbeats 4000000 in
set_option maxRecDepth 100000 in
theorem mN_trunk (l : Launch) (D : va_G) (a : Nat → Nat) (cI cZ : ClassId) (σ : jS) (p : Int32) (nn : Int32) (mb : Int32) (hI : cInv σ) : jI l yN_trunk w_N_trunk (rmD 2) D (jTys cI cZ) [.ref (a 0), .int (p), .int (nn), .int (mb)] (wC a cI cZ σ) (wC a cI cZ (if cTrunkB σ p nn mb = true then cTrunk σ p nn mb else σ)) (bI (cTrunkB σ p nn mb)) := by
  refine jI_of (ws' := jG) (bI_nw _) (by decide) rfl (Nat.le_of_ble_eq_true rfl) ?_
  intro X hF hk
  show jJ l D (rmD 2) 4 X (wC a cI cZ σ) 0 [(0, .ref (a 0)), (1, .int (p)), (2, .int (nn)), (3, .int (mb))] []
  refine jq_aload_n (pc := 0) hF 0 dN_trunk_0 rfl ?_
  refine Cg_N_20 (pc := 1) hF dN_trunk_1 ?_
  refine jq_iload_n (pc := 4) hF 1 dN_trunk_4 rfl ?_
  refine jq_cVI (pc := 5) hF (As := [.int (p)]) (rest := []) (mP_isPlace l D a cI cZ σ (p) ) (jG_v mL_N_101 mI_P_isPlace mS_P_isPlace mZ_P mC_P_isPlace) rfl rfl rfl dd_P_isPlace ⟨Nat.le_of_ble_eq_true rfl, Nat.le_of_ble_eq_true rfl⟩ 1 rfl rfl rfl rfl (Nat.le_of_ble_eq_true rfl) dN_trunk_5 ?_
  refine jq_if_eqB (pc := 8) hF 28 dN_trunk_8 rfl (fun h8 => ?_) (fun h8 => ?_)
  · refine jq_iconst (pc := 28) hF dN_trunk_28 ic_0 ?_
    exact jq_at (hk 29 _ dN_trunk_29) (congrArg (wC a cI cZ) (by exact if_neg (by simp [cTrunkB, h8]))) rfl rfl (congrArg (fun z => [Value.int z]) (bI0 (by simp [cTrunkB, h8])))
  · refine jq_iload_n (pc := 11) hF 2 dN_trunk_11 rfl ?_
    refine jq_cSI (pc := 12) hF (As := [.int (nn)]) (rest := []) (mN_isNetwork l D a cI cZ σ (nn) ) (jG_st mL_N_86 mT_N_isNetwork mZ_N mC_N_isNetwork) rfl rfl rfl dd_N_isNetwork ⟨Nat.le_of_ble_eq_true rfl, Nat.le_of_ble_eq_true rfl⟩ rfl rfl (Nat.le_of_ble_eq_true rfl) dN_trunk_12 ?_
    refine jq_if_eqB (pc := 15) hF 28 dN_trunk_15 rfl (fun h15 => ?_) (fun h15 => ?_)
    · refine jq_iconst (pc := 28) hF dN_trunk_28 ic_0 ?_
      exact jq_at (hk 29 _ dN_trunk_29) (congrArg (wC a cI cZ) (by exact if_neg (by simp [cTrunkB, h8, h15]))) rfl rfl (congrArg (fun z => [Value.int z]) (bI0 (by simp [cTrunkB, h8, h15])))
    · refine jq_iload_n (pc := 18) hF 3 dN_trunk_18 rfl ?_
      refine jq_iconst (pc := 19) hF dN_trunk_19 ic_0 ?_
      refine jq_bipush (pc := 20) hF dN_trunk_20 bi_15 ?_
      refine jq_cSI (pc := 22) hF (As := [.int (mb), .int (nI 0), .int (nI 15)]) (rest := []) (mN_isWithin l D a cI cZ σ (mb) (nI (0)) (nI (15)) ) (jG_st mL_N_62 mT_N_isWithin mZ_N mC_N_isWithin) rfl rfl rfl dd_N_isWithin ⟨Nat.le_of_ble_eq_true rfl, Nat.le_of_ble_eq_true rfl⟩ rfl rfl (Nat.le_of_ble_eq_true rfl) dN_trunk_22 ?_
      refine jq_if_neB (pc := 25) hF 30 dN_trunk_25 rfl (fun h25 => ?_) (fun h25 => ?_)
      · refine jq_aload_n (pc := 30) hF 0 dN_trunk_30 rfl ?_
        refine Cg_N_27 (pc := 31) hF dN_trunk_31 ?_
        refine jq_iload_n (pc := 34) hF 1 dN_trunk_34 rfl ?_
        refine jq_iload_n (pc := 35) hF 2 dN_trunk_35 rfl ?_
        refine jq_iload_n (pc := 36) hF 3 dN_trunk_36 rfl ?_
        refine jq_cVV (pc := 37) hF (As := [.int (p), .int (nn), .int (mb)]) (rest := []) (mW_makeTrunk l D a cI cZ σ (p) (nn) (mb) (cIsPlace_in hI h8)) (jG_v mL_N_108 mI_W_makeTrunk mS_W_makeTrunk mZ_W mC_W_makeTrunk) rfl rfl rfl dd_W_makeTrunk ⟨Nat.le_of_ble_eq_true rfl, Nat.le_of_ble_eq_true rfl⟩ 2 rfl rfl rfl rfl (Nat.le_of_ble_eq_true rfl) dN_trunk_37 ?_
        refine jq_iconst (pc := 40) hF dN_trunk_40 ic_1 ?_
        exact jq_at (hk 41 _ dN_trunk_41) (congrArg (wC a cI cZ) (by exact if_pos (by simp [cTrunkB, h8, h15, h25]))) rfl rfl (congrArg (fun z => [Value.int z]) (bI1 (by simp [cTrunkB, h8, h15, h25])))
      · refine jq_iconst (pc := 28) hF dN_trunk_28 ic_0 ?_
        exact jq_at (hk 29 _ dN_trunk_29) (congrArg (wC a cI cZ) (by exact if_neg (by simp [cTrunkB, h8, h15, h25]))) rfl rfl (congrArg (fun z => [Value.int z]) (bI0 (by simp [cTrunkB, h8, h15, h25])))
set_option maxHeartbeats 4000000 in
set_option maxRecDepth 100000 in
theorem mN_cut (l : Launch) (D : va_G) (a : Nat → Nat) (cI cZ : ClassId) (σ : jS) (w : Int32) (off : Bool) (hI : cInv σ) : jI l yN_cut w_N_cut (rmD 5) D (jTys cI cZ) [.ref (a 0), .int (w), .int (bI (off))] (wC a cI cZ σ) (wC a cI cZ (if cCutB σ w off = true then cCutS σ w off else σ)) (bI (cCutB σ w off)) := by
  refine jI_of (ws' := jG) (bI_nw _) (by decide) rfl (Nat.le_of_ble_eq_true rfl) ?_
  intro X hF hk
  show jJ l D (rmD 5) 4 X (wC a cI cZ σ) 0 [(0, .ref (a 0)), (1, .int (w)), (2, .int (bI (off)))] []
  refine jq_iload_n (pc := 0) hF 1 dN_cut_0 rfl ?_
  refine jq_iconst (pc := 1) hF dN_cut_1 ic_0 ?_
  refine jq_aload_n (pc := 2) hF 0 dN_cut_2 rfl ?_
  refine Cg_N_20 (pc := 3) hF dN_cut_3 ?_
  refine Cg_N_73 (pc := 6) hF dN_cut_6 ?_
  refine jq_iconst (pc := 9) hF dN_cut_9 ic_1 ?_
  refine jq_isub (pc := 10) hF dN_cut_10 ?_
  refine jq_cSI (pc := 11) hF (As := [.int (w), .int (nI 0), .int ((σ 1 1) - (nI (1)))]) (rest := []) (mN_isWithin l D a cI cZ σ (w) (nI (0)) ((σ 1 1) - (nI (1))) ) (jG_st mL_N_62 mT_N_isWithin mZ_N mC_N_isWithin) rfl rfl rfl dd_N_isWithin ⟨Nat.le_of_ble_eq_true rfl, Nat.le_of_ble_eq_true rfl⟩ rfl rfl (Nat.le_of_ble_eq_true rfl) dN_cut_11 ?_
  refine jq_if_eqB (pc := 14) hF 30 dN_cut_14 rfl (fun h14 => ?_) (fun h14 => ?_)
  · refine jq_iconst (pc := 30) hF dN_cut_30 ic_0 ?_
    exact jq_at (hk 31 _ dN_cut_31) (congrArg (wC a cI cZ) (by exact if_neg (by simp [cCutB, h14]))) rfl rfl (congrArg (fun z => [Value.int z]) (bI0 (by simp [cCutB, h14])))
  · refine jq_aload_n (pc := 17) hF 0 dN_cut_17 rfl ?_
    refine Cg_N_20 (pc := 18) hF dN_cut_18 ?_
    refine Cg_N_112 (pc := 21) hF dN_cut_21 ?_
    refine jq_iload_n (pc := 24) hF 1 dN_cut_24 rfl ?_
    refine CL_9 (pc := 25) hF (cWire_in hI h14) dN_cut_25 ?_
    refine jq_iload_n (pc := 26) hF 2 dN_cut_26 rfl ?_
    refine jq_icmp_ne (pc := 27) hF 32 dN_cut_27 rfl (fun h27 => ?_) (fun h27 => ?_)
    · refine jq_aload_n (pc := 32) hF 0 dN_cut_32 rfl ?_
      refine Cg_N_20 (pc := 33) hF dN_cut_33 ?_
      refine Cg_N_112 (pc := 36) hF dN_cut_36 ?_
      refine jq_iload_n (pc := 39) hF 1 dN_cut_39 rfl ?_
      refine jq_iload_n (pc := 40) hF 2 dN_cut_40 rfl ?_
      refine CS_9 (pc := 41) hF (cWire_in hI h14) (bI_nar _) dN_cut_41 ?_
      refine jq_aload_n (pc := 42) hF 0 dN_cut_42 rfl ?_
      refine Cg_N_20 (pc := 43) hF dN_cut_43 ?_
      refine Cg_N_116 (pc := 46) hF dN_cut_46 ?_
      refine jq_iload_n (pc := 49) hF 1 dN_cut_49 rfl ?_
      refine CL_7 (pc := 50) hF (cWire_in hI h14) dN_cut_50 ?_
      refine jq_istore_n (pc := 51) hF [(3, .int ((sU σ 9 (w).toNatClampNeg (bI (off))) 7 (w).toNatClampNeg)), (0, .ref (a 0)), (1, .int (w)), (2, .int (bI (off)))] dN_cut_51 (Nat.le_of_ble_eq_true rfl) rfl ?_
      refine jq_aload_n (pc := 52) hF 1 dN_cut_52 rfl ?_
      refine Cg_N_36 (pc := 53) hF dN_cut_53 ?_
      refine jq_iload_n (pc := 56) hF 0 dN_cut_56 rfl ?_
      refine jq_cVV (pc := 57) hF (As := [.int ((sU σ 9 (w).toNatClampNeg (bI (off))) 7 (w).toNatClampNeg)]) (rest := []) (mT_dropMessage l D a cI cZ (sU σ 9 (w).toNatClampNeg (bI (off))) ((sU σ 9 (w).toNatClampNeg (bI (off))) 7 (w).toNatClampNeg) ((cEnd_ok hI h14).inn (by decide))) (jG_v mL_N_120 mI_T_dropMessage mS_T_dropMessage mZ_T mC_T_dropMessage) rfl rfl rfl dd_T_dropMessage ⟨Nat.le_of_ble_eq_true rfl, Nat.le_of_ble_eq_true rfl⟩ 3 rfl rfl rfl rfl (Nat.le_of_ble_eq_true rfl) dN_cut_57 ?_
      refine jq_aload_n (pc := 60) hF 1 dN_cut_60 rfl ?_
      refine Cg_N_36 (pc := 61) hF dN_cut_61 ?_
      refine jq_aload_n (pc := 64) hF 1 dN_cut_64 rfl ?_
      refine Cg_N_20 (pc := 65) hF dN_cut_65 ?_
      refine Cg_N_123 (pc := 68) hF dN_cut_68 ?_
      refine jq_iload_n (pc := 71) hF 0 dN_cut_71 rfl ?_
      refine CL_13 (pc := 72) hF ((cEnd_ok hI h14).inn (by decide)) dN_cut_72 ?_
      refine jq_cVV (pc := 73) hF (As := [.int ((cDrop (sU σ 9 (w).toNatClampNeg (bI (off))) ((sU σ 9 (w).toNatClampNeg (bI (off))) 7 (w).toNatClampNeg)) 13 ((sU σ 9 (w).toNatClampNeg (bI (off))) 7 (w).toNatClampNeg).toNatClampNeg)]) (rest := []) (mT_dropMessage l D a cI cZ (cDrop (sU σ 9 (w).toNatClampNeg (bI (off))) ((sU σ 9 (w).toNatClampNeg (bI (off))) 7 (w).toNatClampNeg)) ((cDrop (sU σ 9 (w).toNatClampNeg (bI (off))) ((sU σ 9 (w).toNatClampNeg (bI (off))) 7 (w).toNatClampNeg)) 13 ((sU σ 9 (w).toNatClampNeg (bI (off))) 7 (w).toNatClampNeg).toNatClampNeg) ((cFar_ok hI h14).inn (by decide))) (jG_v mL_N_120 mI_T_dropMessage mS_T_dropMessage mZ_T mC_T_dropMessage) rfl rfl rfl dd_T_dropMessage ⟨Nat.le_of_ble_eq_true rfl, Nat.le_of_ble_eq_true rfl⟩ 3 rfl rfl rfl rfl (Nat.le_of_ble_eq_true rfl) dN_cut_73 ?_
      refine jq_aload_n (pc := 76) hF 1 dN_cut_76 rfl ?_
      refine Cg_N_36 (pc := 77) hF dN_cut_77 ?_
      refine jq_cVV (pc := 80) hF (As := []) (rest := []) (mT_settle l D a cI cZ (cDrop (cDrop (sU σ 9 (w).toNatClampNeg (bI (off))) ((sU σ 9 (w).toNatClampNeg (bI (off))) 7 (w).toNatClampNeg)) ((cDrop (sU σ 9 (w).toNatClampNeg (bI (off))) ((sU σ 9 (w).toNatClampNeg (bI (off))) 7 (w).toNatClampNeg)) 13 ((sU σ 9 (w).toNatClampNeg (bI (off))) 7 (w).toNatClampNeg).toNatClampNeg))  (((hI.u (by decide)).u (by decide)).u (by decide))) (jG_v mL_N_70 mI_T_settle mS_T_settle mZ_T mC_T_settle) rfl rfl rfl dd_T_settle ⟨Nat.le_of_ble_eq_true rfl, Nat.le_of_ble_eq_true rfl⟩ 3 rfl rfl rfl rfl (Nat.le_of_ble_eq_true rfl) dN_cut_80 ?_
      refine jq_iconst (pc := 83) hF dN_cut_83 ic_1 ?_
      exact jq_at (hk 84 _ dN_cut_84) (congrArg (wC a cI cZ) (by exact if_pos (by simp [cCutB, h14, h27]))) rfl rfl (congrArg (fun z => [Value.int z]) (bI1 (by simp [cCutB, h14, h27])))
    · refine jq_iconst (pc := 30) hF dN_cut_30 ic_0 ?_
      exact jq_at (hk 31 _ dN_cut_31) (congrArg (wC a cI cZ) (by exact if_neg (by simp [cCutB, h14, h27]))) rfl rfl (congrArg (fun z => [Value.int z]) (bI0 (by simp [cCutB, h14, h27])))
set_option maxHeartbeats 4000000 in
set_option maxRecDepth 100000 in
theorem mN_role (l : Launch) (D : va_G) (a : Nat → Nat) (cI cZ : ClassId) (σ : jS) (p : Int32) (hI : cInv σ) : jI l yN_role w_N_role (rmD 2) D (jTys cI cZ) [.ref (a 0), .int (p)] (wC a cI cZ σ) (wC a cI cZ (σ)) (if cIsPlace σ p = true then σ 25 (p).toNatClampNeg else -1) := by
  refine jI_of (ws' := jG) rfl (by decide) rfl (Nat.le_of_ble_eq_true rfl) ?_
  intro X hF hk
  show jJ l D (rmD 2) 2 X (wC a cI cZ σ) 0 [(0, .ref (a 0)), (1, .int (p))] []
  refine jq_aload_n (pc := 0) hF 0 dN_role_0 rfl ?_
  refine Cg_N_20 (pc := 1) hF dN_role_1 ?_
  refine jq_iload_n (pc := 4) hF 1 dN_role_4 rfl ?_
  refine jq_cVI (pc := 5) hF (As := [.int (p)]) (rest := []) (mP_isPlace l D a cI cZ σ (p) ) (jG_v mL_N_101 mI_P_isPlace mS_P_isPlace mZ_P mC_P_isPlace) rfl rfl rfl dd_P_isPlace ⟨Nat.le_of_ble_eq_true rfl, Nat.le_of_ble_eq_true rfl⟩ 1 rfl rfl rfl rfl (Nat.le_of_ble_eq_true rfl) dN_role_5 ?_
  refine jq_if_eqB (pc := 8) hF 23 dN_role_8 rfl (fun h8 => ?_) (fun h8 => ?_)
  · refine jq_iconst (pc := 23) hF dN_role_23 ic_m1 ?_
    exact jq_at (hk 24 _ dN_role_24) rfl rfl rfl (congrArg (fun z => [Value.int z]) (by simp [h8]))
  · refine jq_aload_n (pc := 11) hF 0 dN_role_11 rfl ?_
    refine Cg_N_36 (pc := 12) hF dN_role_12 ?_
    refine Cg_N_135 (pc := 15) hF dN_role_15 ?_
    refine jq_iload_n (pc := 18) hF 1 dN_role_18 rfl ?_
    refine CL_25 (pc := 19) hF (cIsPlace_in hI h8) dN_role_19 ?_
    refine jq_goto (pc := 20) hF 24 dN_role_20 rfl ?_
    exact jq_at (hk 24 _ dN_role_24) rfl rfl rfl (congrArg (fun z => [Value.int z]) (by simp [h8]))
set_option maxHeartbeats 4000000 in
set_option maxRecDepth 100000 in
theorem mN_state (l : Launch) (D : va_G) (a : Nat → Nat) (cI cZ : ClassId) (σ : jS) (p : Int32) (hI : cInv σ) : jI l yN_state w_N_state (rmD 2) D (jTys cI cZ) [.ref (a 0), .int (p)] (wC a cI cZ σ) (wC a cI cZ (σ)) (if cIsPlace σ p = true then σ 27 (p).toNatClampNeg else -1) := by
  refine jI_of (ws' := jG) rfl (by decide) rfl (Nat.le_of_ble_eq_true rfl) ?_
  intro X hF hk
  show jJ l D (rmD 2) 2 X (wC a cI cZ σ) 0 [(0, .ref (a 0)), (1, .int (p))] []
  refine jq_aload_n (pc := 0) hF 0 dN_state_0 rfl ?_
  refine Cg_N_20 (pc := 1) hF dN_state_1 ?_
  refine jq_iload_n (pc := 4) hF 1 dN_state_4 rfl ?_
  refine jq_cVI (pc := 5) hF (As := [.int (p)]) (rest := []) (mP_isPlace l D a cI cZ σ (p) ) (jG_v mL_N_101 mI_P_isPlace mS_P_isPlace mZ_P mC_P_isPlace) rfl rfl rfl dd_P_isPlace ⟨Nat.le_of_ble_eq_true rfl, Nat.le_of_ble_eq_true rfl⟩ 1 rfl rfl rfl rfl (Nat.le_of_ble_eq_true rfl) dN_state_5 ?_
  refine jq_if_eqB (pc := 8) hF 23 dN_state_8 rfl (fun h8 => ?_) (fun h8 => ?_)
  · refine jq_iconst (pc := 23) hF dN_state_23 ic_m1 ?_
    exact jq_at (hk 24 _ dN_state_24) rfl rfl rfl (congrArg (fun z => [Value.int z]) (by simp [h8]))
  · refine jq_aload_n (pc := 11) hF 0 dN_state_11 rfl ?_
    refine Cg_N_36 (pc := 12) hF dN_state_12 ?_
    refine Cg_N_138 (pc := 15) hF dN_state_15 ?_
    refine jq_iload_n (pc := 18) hF 1 dN_state_18 rfl ?_
    refine CL_27 (pc := 19) hF (cIsPlace_in hI h8) dN_state_19 ?_
    refine jq_goto (pc := 20) hF 24 dN_state_20 rfl ?_
    exact jq_at (hk 24 _ dN_state_24) rfl rfl rfl (congrArg (fun z => [Value.int z]) (by simp [h8]))
set_option maxHeartbeats 4000000 in
set_option maxRecDepth 100000 in
theorem mN_root (l : Launch) (D : va_G) (a : Nat → Nat) (cI cZ : ClassId) (σ : jS) (b : Int32) (hI : cInv σ) : jI l yN_root w_N_root (rmD 2) D (jTys cI cZ) [.ref (a 0), .int (b)] (wC a cI cZ σ) (wC a cI cZ (σ)) (if cIsBridge σ b = true then σ 22 (b).toNatClampNeg * nI 2048 + σ 23 (b).toNatClampNeg * nI 2 + bI (cMarked σ (b).toNatClampNeg) else -1) := by
  refine jI_of (ws' := jG) rfl (by decide) rfl (Nat.le_of_ble_eq_true rfl) ?_
  intro X hF hk
  show jJ l D (rmD 2) 3 X (wC a cI cZ σ) 0 [(0, .ref (a 0)), (1, .int (b))] []
  refine jq_aload_n (pc := 0) hF 0 dN_root_0 rfl ?_
  refine Cg_N_20 (pc := 1) hF dN_root_1 ?_
  refine jq_iload_n (pc := 4) hF 1 dN_root_4 rfl ?_
  refine jq_cVI (pc := 5) hF (As := [.int (b)]) (rest := []) (mP_isBridge l D a cI cZ σ (b) ) (jG_v mL_N_141 mI_P_isBridge mS_P_isBridge mZ_P mC_P_isBridge) rfl rfl rfl dd_P_isBridge ⟨Nat.le_of_ble_eq_true rfl, Nat.le_of_ble_eq_true rfl⟩ 1 rfl rfl rfl rfl (Nat.le_of_ble_eq_true rfl) dN_root_5 ?_
  refine jq_if_neB (pc := 8) hF 13 dN_root_8 rfl (fun h8 => ?_) (fun h8 => ?_)
  · have hnb := hI.nbl.1
    obtain ⟨k, rfl, hkk⟩ := cIsBridge_at hI h8
    refine jq_aload_n (pc := 13) hF 0 dN_root_13 rfl ?_
    refine Cg_N_36 (pc := 14) hF dN_root_14 ?_
    refine jq_iload_n (pc := 17) hF 1 dN_root_17 rfl ?_
    refine jq_cVI (pc := 18) hF (As := [.int (nI k)]) (rest := []) (mT_isMarked l D a cI cZ σ (k) (by omega) hI) (jG_v mL_N_144 mI_T_isMarked mS_T_isMarked mZ_T mC_T_isMarked) rfl rfl rfl dd_T_isMarked ⟨Nat.le_of_ble_eq_true rfl, Nat.le_of_ble_eq_true rfl⟩ 3 rfl rfl rfl rfl (Nat.le_of_ble_eq_true rfl) dN_root_18 ?_
    have j29 : jJ l D (rmD 2) 3 X (wC a cI cZ σ) 29 [(0, .ref (a 0)), (1, .int (nI k))] [.int (bI ((cMarked σ (k))))] := by
      refine jq_istore_n (pc := 29) hF [(2, .int (bI ((cMarked σ (k))))), (0, .ref (a 0)), (1, .int (nI k))] dN_root_29 (Nat.le_of_ble_eq_true rfl) rfl ?_
      refine jq_aload_n (pc := 30) hF 1 dN_root_30 rfl ?_
      refine Cg_N_36 (pc := 31) hF dN_root_31 ?_
      refine Cg_N_147 (pc := 34) hF dN_root_34 ?_
      refine jq_iload_n (pc := 37) hF 2 dN_root_37 rfl ?_
      refine Cl_22 (pc := 38) hF (by omega) dN_root_38 ?_
      refine jq_sipush (pc := 39) hF dN_root_39 si_2048 ?_
      refine jq_imul (pc := 42) hF dN_root_42 ?_
      refine jq_aload_n (pc := 43) hF 1 dN_root_43 rfl ?_
      refine Cg_N_36 (pc := 44) hF dN_root_44 ?_
      refine Cg_N_150 (pc := 47) hF dN_root_47 ?_
      refine jq_iload_n (pc := 50) hF 2 dN_root_50 rfl ?_
      refine Cl_23 (pc := 51) hF (by omega) dN_root_51 ?_
      refine jq_iconst (pc := 52) hF dN_root_52 ic_2 ?_
      refine jq_imul (pc := 53) hF dN_root_53 ?_
      refine jq_iadd (pc := 54) hF dN_root_54 ?_
      refine jq_iload_n (pc := 55) hF 0 dN_root_55 rfl ?_
      refine jq_iadd (pc := 56) hF dN_root_56 ?_
      exact jq_at (hk 57 _ dN_root_57) rfl rfl rfl (congrArg (fun z => [Value.int z]) (by rw [if_pos h8, nI_clamp (by omega)]))
    refine jq_if_eqB (pc := 21) hF 28 dN_root_21 rfl (fun h21 => ?_) (fun h21 => ?_)
    · refine jq_iconst (pc := 28) hF dN_root_28 ic_0 ?_
      exact jq_at j29 rfl rfl rfl (by rw [h21]; rfl)
    · refine jq_iconst (pc := 24) hF dN_root_24 ic_1 ?_
      refine jq_goto (pc := 25) hF 29 dN_root_25 rfl ?_
      exact jq_at j29 rfl rfl rfl (by rw [h21]; rfl)
  · refine jq_iconst (pc := 11) hF dN_root_11 ic_m1 ?_
    exact jq_at (hk 12 _ dN_root_12) rfl rfl rfl (congrArg (fun z => [Value.int z]) (by exact if_neg (by rw [h8]; decide)))
set_option maxHeartbeats 4000000 in
set_option maxRecDepth 100000 in
theorem mN_held (l : Launch) (D : va_G) (a : Nat → Nat) (cI cZ : ClassId) (σ : jS) (p : Int32) (w : Int32) (hI : cInv σ) : jI l yN_held w_N_held (rmD 2) D (jTys cI cZ) [.ref (a 0), .int (p), .int (w)] (wC a cI cZ σ) (wC a cI cZ (σ)) (if cHeldB σ p w = true then σ 18 (6 * (p).toNatClampNeg + (w).toNatClampNeg) else -1) := by
  refine jI_of (ws' := jG) rfl (by decide) rfl (Nat.le_of_ble_eq_true rfl) ?_
  intro X hF hk
  show jJ l D (rmD 2) 3 X (wC a cI cZ σ) 0 [(0, .ref (a 0)), (1, .int (p)), (2, .int (w))] []
  refine jq_aload_n (pc := 0) hF 0 dN_held_0 rfl ?_
  refine Cg_N_20 (pc := 1) hF dN_held_1 ?_
  refine jq_iload_n (pc := 4) hF 1 dN_held_4 rfl ?_
  refine jq_cVI (pc := 5) hF (As := [.int (p)]) (rest := []) (mP_isPlace l D a cI cZ σ (p) ) (jG_v mL_N_101 mI_P_isPlace mS_P_isPlace mZ_P mC_P_isPlace) rfl rfl rfl dd_P_isPlace ⟨Nat.le_of_ble_eq_true rfl, Nat.le_of_ble_eq_true rfl⟩ 1 rfl rfl rfl rfl (Nat.le_of_ble_eq_true rfl) dN_held_5 ?_
  refine jq_if_eqB (pc := 8) hF 32 dN_held_8 rfl (fun h8 => ?_) (fun h8 => ?_)
  · refine jq_iconst (pc := 32) hF dN_held_32 ic_m1 ?_
    exact jq_at (hk 33 _ dN_held_33) rfl rfl rfl (congrArg (fun z => [Value.int z]) (by exact if_neg (by simp [cHeldB, h8])))
  · refine jq_aload_n (pc := 11) hF 0 dN_held_11 rfl ?_
    refine Cg_N_36 (pc := 12) hF dN_held_12 ?_
    refine Cg_N_153 (pc := 15) hF dN_held_15 ?_
    refine jq_iload_n (pc := 18) hF 1 dN_held_18 rfl ?_
    refine CL_19 (pc := 19) hF (cIsPlace_in hI h8) dN_held_19 ?_
    refine jq_if_eq (pc := 20) hF 32 dN_held_20 rfl (fun h20 => ?_) (fun h20 => ?_)
    · refine jq_iconst (pc := 32) hF dN_held_32 ic_m1 ?_
      exact jq_at (hk 33 _ dN_held_33) rfl rfl rfl (congrArg (fun z => [Value.int z]) (by exact if_neg (by simp [cHeldB, h8, h20])))
    · refine jq_iload_n (pc := 23) hF 2 dN_held_23 rfl ?_
      refine jq_iconst (pc := 24) hF dN_held_24 ic_0 ?_
      refine jq_iconst (pc := 25) hF dN_held_25 ic_5 ?_
      refine jq_cSI (pc := 26) hF (As := [.int (w), .int (nI 0), .int (nI 5)]) (rest := []) (mN_isWithin l D a cI cZ σ (w) (nI (0)) (nI (5)) ) (jG_st mL_N_62 mT_N_isWithin mZ_N mC_N_isWithin) rfl rfl rfl dd_N_isWithin ⟨Nat.le_of_ble_eq_true rfl, Nat.le_of_ble_eq_true rfl⟩ rfl rfl (Nat.le_of_ble_eq_true rfl) dN_held_26 ?_
      refine jq_if_neB (pc := 29) hF 34 dN_held_29 rfl (fun h29 => ?_) (fun h29 => ?_)
      · have hnb := hI.nbl.1
        have hB : cHeldB σ p w = true := by simp [cHeldB, h8, h20, h29]
        obtain ⟨k, rfl, hkk⟩ := cIsPlace_at hI h8
        obtain ⟨j, hj, rfl⟩ := cWithin_le (m := 5) (by decide) h29
        refine jq_aload_n (pc := 34) hF 0 dN_held_34 rfl ?_
        refine Cg_N_36 (pc := 35) hF dN_held_35 ?_
        refine Cg_N_156 (pc := 38) hF dN_held_38 ?_
        refine jq_bipush (pc := 41) hF dN_held_41 bi_6 ?_
        refine jq_iload_n (pc := 43) hF 1 dN_held_43 rfl ?_
        refine jq_imulN (pc := 44) hF dN_held_44 ?_
        refine jq_iload_n (pc := 45) hF 2 dN_held_45 rfl ?_
        refine jq_iaddN (pc := 46) hF dN_held_46 ?_
        refine Cl_18 (pc := 47) hF (by omega) dN_held_47 ?_
        exact jq_at (hk 48 _ dN_held_48) rfl rfl rfl (congrArg (fun z => [Value.int z]) (by rw [if_pos hB, nI_clamp (by omega), nI_clamp (by omega)]))
      · refine jq_iconst (pc := 32) hF dN_held_32 ic_m1 ?_
        exact jq_at (hk 33 _ dN_held_33) rfl rfl rfl (congrArg (fun z => [Value.int z]) (by exact if_neg (by simp [cHeldB, h8, h20, h29])))
set_option maxHeartbeats 4000000 in
set_option maxRecDepth 100000 in
theorem mN_learned (l : Launch) (D : va_G) (a : Nat → Nat) (cI cZ : ClassId) (σ : jS) (b : Int32) (n : Int32) (x : Int32) (hI : cInv σ) : jI l yN_learned w_N_learned (rmD 2) D (jTys cI cZ) [.ref (a 0), .int (b), .int (n), .int (x)] (wC a cI cZ σ) (wC a cI cZ (σ)) (if cLearnedB σ b n x = true then cPort σ (b).toNatClampNeg (n).toNatClampNeg (x).toNatClampNeg else -1) := by
  refine jI_of (ws' := jG) rfl (by decide) rfl (Nat.le_of_ble_eq_true rfl) ?_
  intro X hF hk
  show jJ l D (rmD 2) 4 X (wC a cI cZ σ) 0 [(0, .ref (a 0)), (1, .int (b)), (2, .int (n)), (3, .int (x))] []
  refine jq_aload_n (pc := 0) hF 0 dN_learned_0 rfl ?_
  refine Cg_N_20 (pc := 1) hF dN_learned_1 ?_
  refine jq_iload_n (pc := 4) hF 1 dN_learned_4 rfl ?_
  refine jq_cVI (pc := 5) hF (As := [.int (b)]) (rest := []) (mP_isBridge l D a cI cZ σ (b) ) (jG_v mL_N_141 mI_P_isBridge mS_P_isBridge mZ_P mC_P_isBridge) rfl rfl rfl dd_P_isBridge ⟨Nat.le_of_ble_eq_true rfl, Nat.le_of_ble_eq_true rfl⟩ 1 rfl rfl rfl rfl (Nat.le_of_ble_eq_true rfl) dN_learned_5 ?_
  refine jq_if_eqB (pc := 8) hF 28 dN_learned_8 rfl (fun h8 => ?_) (fun h8 => ?_)
  · refine jq_iconst (pc := 28) hF dN_learned_28 ic_m1 ?_
    exact jq_at (hk 29 _ dN_learned_29) rfl rfl rfl (congrArg (fun z => [Value.int z]) (by exact if_neg (by simp [cLearnedB, h8])))
  · refine jq_iload_n (pc := 11) hF 2 dN_learned_11 rfl ?_
    refine jq_cSI (pc := 12) hF (As := [.int (n)]) (rest := []) (mN_isNetwork l D a cI cZ σ (n) ) (jG_st mL_N_86 mT_N_isNetwork mZ_N mC_N_isNetwork) rfl rfl rfl dd_N_isNetwork ⟨Nat.le_of_ble_eq_true rfl, Nat.le_of_ble_eq_true rfl⟩ rfl rfl (Nat.le_of_ble_eq_true rfl) dN_learned_12 ?_
    refine jq_if_eqB (pc := 15) hF 28 dN_learned_15 rfl (fun h15 => ?_) (fun h15 => ?_)
    · refine jq_iconst (pc := 28) hF dN_learned_28 ic_m1 ?_
      exact jq_at (hk 29 _ dN_learned_29) rfl rfl rfl (congrArg (fun z => [Value.int z]) (by exact if_neg (by simp [cLearnedB, h8, h15])))
    · refine jq_iload_n (pc := 18) hF 3 dN_learned_18 rfl ?_
      refine jq_iconst (pc := 19) hF dN_learned_19 ic_0 ?_
      refine jq_bipush (pc := 20) hF dN_learned_20 bi_6 ?_
      refine jq_cSI (pc := 22) hF (As := [.int (x), .int (nI 0), .int (nI 6)]) (rest := []) (mN_isWithin l D a cI cZ σ (x) (nI (0)) (nI (6)) ) (jG_st mL_N_62 mT_N_isWithin mZ_N mC_N_isWithin) rfl rfl rfl dd_N_isWithin ⟨Nat.le_of_ble_eq_true rfl, Nat.le_of_ble_eq_true rfl⟩ rfl rfl (Nat.le_of_ble_eq_true rfl) dN_learned_22 ?_
      refine jq_if_neB (pc := 25) hF 30 dN_learned_25 rfl (fun h25 => ?_) (fun h25 => ?_)
      · have hnb := hI.nbl.1
        have hB : cLearnedB σ b n x = true := by simp [cLearnedB, h8, h15, h25]
        obtain ⟨k, rfl, hkk⟩ := cIsBridge_at hI h8
        obtain ⟨j, hj, rfl⟩ := cWithin_le (m := 3) (by decide) h15
        obtain ⟨y, hy, rfl⟩ := cWithin_le (m := 6) (by decide) h25
        refine jq_aload_n (pc := 30) hF 0 dN_learned_30 rfl ?_
        refine Cg_N_43 (pc := 31) hF dN_learned_31 ?_
        refine jq_iload_n (pc := 34) hF 1 dN_learned_34 rfl ?_
        refine jq_iload_n (pc := 35) hF 2 dN_learned_35 rfl ?_
        refine jq_iload_n (pc := 36) hF 3 dN_learned_36 rfl ?_
        refine jq_cVI (pc := 37) hF (As := [.int (nI k), .int (nI j), .int (nI y)]) (rest := []) (mB_portOf l D a cI cZ σ (k) (j) (y) (by omega) (by omega) (by omega)) (jG_v mL_N_159 mI_B_portOf mS_B_portOf mZ_B mC_B_portOf) rfl rfl rfl dd_B_portOf ⟨Nat.le_of_ble_eq_true rfl, Nat.le_of_ble_eq_true rfl⟩ 4 rfl rfl rfl rfl (Nat.le_of_ble_eq_true rfl) dN_learned_37 ?_
        exact jq_at (hk 40 _ dN_learned_40) rfl rfl rfl (congrArg (fun z => [Value.int z]) (by rw [if_pos hB, nI_clamp (by omega), nI_clamp (by omega), nI_clamp (by omega)]))
      · refine jq_iconst (pc := 28) hF dN_learned_28 ic_m1 ?_
        exact jq_at (hk 29 _ dN_learned_29) rfl rfl rfl (congrArg (fun z => [Value.int z]) (by exact if_neg (by simp [cLearnedB, h8, h15, h25])))
set_option maxHeartbeats 4000000 in
set_option maxRecDepth 100000 in
theorem mN_entries (l : Launch) (D : va_G) (a : Nat → Nat) (cI cZ : ClassId) (σ : jS) (b : Int32) (hI : cInv σ) : jI l yN_entries w_N_entries (rmD 2) D (jTys cI cZ) [.ref (a 0), .int (b)] (wC a cI cZ σ) (wC a cI cZ (σ)) (if cIsBridge σ b = true then nI (cCountN σ (b).toNatClampNeg 28) else -1) := by
  refine jI_of (ws' := jG) rfl (by decide) rfl (Nat.le_of_ble_eq_true rfl) ?_
  intro X hF hk
  show jJ l D (rmD 2) 2 X (wC a cI cZ σ) 0 [(0, .ref (a 0)), (1, .int (b))] []
  refine jq_aload_n (pc := 0) hF 0 dN_entries_0 rfl ?_
  refine Cg_N_20 (pc := 1) hF dN_entries_1 ?_
  refine jq_iload_n (pc := 4) hF 1 dN_entries_4 rfl ?_
  refine jq_cVI (pc := 5) hF (As := [.int (b)]) (rest := []) (mP_isBridge l D a cI cZ σ (b) ) (jG_v mL_N_141 mI_P_isBridge mS_P_isBridge mZ_P mC_P_isBridge) rfl rfl rfl dd_P_isBridge ⟨Nat.le_of_ble_eq_true rfl, Nat.le_of_ble_eq_true rfl⟩ 1 rfl rfl rfl rfl (Nat.le_of_ble_eq_true rfl) dN_entries_5 ?_
  refine jq_if_eqB (pc := 8) hF 22 dN_entries_8 rfl (fun h8 => ?_) (fun h8 => ?_)
  · refine jq_iconst (pc := 22) hF dN_entries_22 ic_m1 ?_
    exact jq_at (hk 23 _ dN_entries_23) rfl rfl rfl (congrArg (fun z => [Value.int z]) (by first | (rw [if_pos h8, nI_clamp (by omega)]; done) | exact if_neg (by rw [h8]; decide)))
  · have hnb := hI.nbl.1
    obtain ⟨k, rfl, hkk⟩ := cIsBridge_at hI h8
    refine jq_aload_n (pc := 11) hF 0 dN_entries_11 rfl ?_
    refine Cg_N_43 (pc := 12) hF dN_entries_12 ?_
    refine jq_iload_n (pc := 15) hF 1 dN_entries_15 rfl ?_
    refine jq_cVI (pc := 16) hF (As := [.int (nI k)]) (rest := []) (mB_countOf l D a cI cZ σ (k) (by omega)) (jG_v mL_N_162 mI_B_countOf mS_B_countOf mZ_B mC_B_countOf) rfl rfl rfl dd_B_countOf ⟨Nat.le_of_ble_eq_true rfl, Nat.le_of_ble_eq_true rfl⟩ 4 rfl rfl rfl rfl (Nat.le_of_ble_eq_true rfl) dN_entries_16 ?_
    refine jq_goto (pc := 19) hF 23 dN_entries_19 rfl ?_
    exact jq_at (hk 23 _ dN_entries_23) rfl rfl rfl (congrArg (fun z => [Value.int z]) (by first | (rw [if_pos h8, nI_clamp (by omega)]; done) | exact if_neg (by rw [h8]; decide)))
set_option maxHeartbeats 4000000 in
set_option maxRecDepth 100000 in
theorem mN_answer (l : Launch) (D : va_G) (a : Nat → Nat) (cI cZ : ClassId) (σ : jS)   : jI l yN_answer w_N_answer (rmD 0) D (jTys cI cZ) [.ref (a 0)] (wC a cI cZ σ) (wC a cI cZ (σ)) (σ 0 1) := by
  refine jI_of (ws' := jG) rfl (by decide) rfl (Nat.le_of_ble_eq_true rfl) ?_
  intro X hF hk
  show jJ l D (rmD 0) 1 X (wC a cI cZ σ) 0 [(0, .ref (a 0))] []
  refine jq_aload_n (pc := 0) hF 0 dN_answer_0 rfl ?_
  refine Cg_N_56 (pc := 1) hF dN_answer_1 ?_
  exact jq_at (hk 4 _ dN_answer_4) rfl rfl rfl rfl
set_option maxHeartbeats 4000000 in
set_option maxRecDepth 100000 in
theorem mN_crossings (l : Launch) (D : va_G) (a : Nat → Nat) (cI cZ : ClassId) (σ : jS)   : jI l yN_crossings w_N_crossings (rmD 0) D (jTys cI cZ) [.ref (a 0)] (wC a cI cZ σ) (wC a cI cZ (σ)) (σ 5 5) := by
  refine jI_of (ws' := jG) rfl (by decide) rfl (Nat.le_of_ble_eq_true rfl) ?_
  intro X hF hk
  show jJ l D (rmD 0) 1 X (wC a cI cZ σ) 0 [(0, .ref (a 0))] []
  refine jq_aload_n (pc := 0) hF 0 dN_crossings_0 rfl ?_
  refine Cg_N_52 (pc := 1) hF dN_crossings_1 ?_
  refine Cg_N_186 (pc := 4) hF dN_crossings_4 ?_
  exact jq_at (hk 7 _ dN_crossings_7) rfl rfl rfl rfl
set_option maxHeartbeats 4000000 in
set_option maxRecDepth 100000 in
theorem mN_isDestination (l : Launch) (D : va_G) (a : Nat → Nat) (cI cZ : ClassId) (σ : jS) (x : Int32)  : jI l yN_isDestination w_N_isDestination (rmD 2) D (jTys cI cZ) [.ref (a 0), .int (x)] (wC a cI cZ σ) (wC a cI cZ (σ)) (bI (cIsDest σ x)) := by
  refine jI_of (ws' := jG) (bI_nw _) (by decide) rfl (Nat.le_of_ble_eq_true rfl) ?_
  intro X hF hk
  show jJ l D (rmD 2) 2 X (wC a cI cZ σ) 0 [(0, .ref (a 0)), (1, .int (x))] []
  refine jq_iload_n (pc := 0) hF 1 dN_isDestination_0 rfl ?_
  refine jq_iconst (pc := 1) hF dN_isDestination_1 ic_m1 ?_
  refine jq_icmp_eq (pc := 2) hF 32 dN_isDestination_2 rfl (fun h2 => ?_) (fun h2 => ?_)
  · refine jq_iconst (pc := 32) hF dN_isDestination_32 ic_1 ?_
    refine jq_goto (pc := 33) hF 37 dN_isDestination_33 rfl ?_
    exact jq_at (hk 37 _ dN_isDestination_37) rfl rfl rfl (congrArg (fun z => [Value.int z]) (bI1 (by first | (simp [cIsDest, h2]; done) | (subst h19; simp [cIsDest, h2, h13, h29]; done))))
  · refine jq_aload_n (pc := 5) hF 0 dN_isDestination_5 rfl ?_
    refine Cg_N_20 (pc := 6) hF dN_isDestination_6 ?_
    refine jq_iload_n (pc := 9) hF 1 dN_isDestination_9 rfl ?_
    refine jq_cVI (pc := 10) hF (As := [.int (x)]) (rest := []) (mP_isHost l D a cI cZ σ (x) ) (jG_v mL_N_165 mI_P_isHost mS_P_isHost mZ_P mC_P_isHost) rfl rfl rfl dd_P_isHost ⟨Nat.le_of_ble_eq_true rfl, Nat.le_of_ble_eq_true rfl⟩ 1 rfl rfl rfl rfl (Nat.le_of_ble_eq_true rfl) dN_isDestination_10 ?_
    refine jq_if_neB (pc := 13) hF 32 dN_isDestination_13 rfl (fun h13 => ?_) (fun h13 => ?_)
    · refine jq_iconst (pc := 32) hF dN_isDestination_32 ic_1 ?_
      refine jq_goto (pc := 33) hF 37 dN_isDestination_33 rfl ?_
      exact jq_at (hk 37 _ dN_isDestination_37) rfl rfl rfl (congrArg (fun z => [Value.int z]) (bI1 (by first | (simp [cIsDest, h2, h13]; done) | (subst h19; simp [cIsDest, h2, h13, h29]; done))))
    · refine jq_iload_n (pc := 16) hF 1 dN_isDestination_16 rfl ?_
      refine jq_bipush (pc := 17) hF dN_isDestination_17 bi_6 ?_
      refine jq_icmp_ne (pc := 19) hF 36 dN_isDestination_19 rfl (fun h19 => ?_) (fun h19 => ?_)
      · refine jq_iconst (pc := 36) hF dN_isDestination_36 ic_0 ?_
        exact jq_at (hk 37 _ dN_isDestination_37) rfl rfl rfl (congrArg (fun z => [Value.int z]) (bI0 (by first | (simp [cIsDest, h2, h13, h19]; done) | (subst h19; simp [cIsDest, h2, h13, h29]; done))))
      · refine jq_aload_n (pc := 22) hF 0 dN_isDestination_22 rfl ?_
        refine Cg_N_20 (pc := 23) hF dN_isDestination_23 ?_
        refine jq_cVI (pc := 26) hF (As := []) (rest := []) (mP_hasRouter l D a cI cZ σ  ) (jG_v mL_N_93 mI_P_hasRouter mS_P_hasRouter mZ_P mC_P_hasRouter) rfl rfl rfl dd_P_hasRouter ⟨Nat.le_of_ble_eq_true rfl, Nat.le_of_ble_eq_true rfl⟩ 1 rfl rfl rfl rfl (Nat.le_of_ble_eq_true rfl) dN_isDestination_26 ?_
        refine jq_if_eqB (pc := 29) hF 36 dN_isDestination_29 rfl (fun h29 => ?_) (fun h29 => ?_)
        · refine jq_iconst (pc := 36) hF dN_isDestination_36 ic_0 ?_
          exact jq_at (hk 37 _ dN_isDestination_37) rfl rfl rfl (congrArg (fun z => [Value.int z]) (bI0 (by first | (simp [cIsDest, h2, h13, h19, h29]; done) | (subst h19; simp [cIsDest, h2, h13, h29]; done))))
        · refine jq_iconst (pc := 32) hF dN_isDestination_32 ic_1 ?_
          refine jq_goto (pc := 33) hF 37 dN_isDestination_33 rfl ?_
          exact jq_at (hk 37 _ dN_isDestination_37) rfl rfl rfl (congrArg (fun z => [Value.int z]) (bI1 (by first | (simp [cIsDest, h2, h13, h19, h29]; done) | (subst h19; simp [cIsDest, h2, h13, h29]; done))))
set_option maxHeartbeats 4000000 in
set_option maxRecDepth 100000 in
theorem mN_send (l : Launch) (D : va_G) (a : Nat → Nat) (cI cZ : ClassId) (σ : jS) (f : Int32) (t : Int32) (hI : cInv σ) : jI l yN_send w_N_send (rmD 5) D (jTys cI cZ) [.ref (a 0), .int (f), .int (t)] (wC a cI cZ σ) (wC a cI cZ (if cSendB σ f t = true then cCarry (sU σ 5 5 (nI 0)) f t (σ 10 (f).toNatClampNeg) (-1) else σ)) (if cSendB σ f t = true then (cCarry (sU σ 5 5 (nI 0)) f t (σ 10 (f).toNatClampNeg) (-1)) 5 4 else -1) := by
  refine jI_of (ws' := jG) rfl (by decide) rfl (Nat.le_of_ble_eq_true rfl) ?_
  intro X hF hk
  show jJ l D (rmD 5) 3 X (wC a cI cZ σ) 0 [(0, .ref (a 0)), (1, .int (f)), (2, .int (t))] []
  refine jq_aload_n (pc := 0) hF 0 dN_send_0 rfl ?_
  refine Cg_N_20 (pc := 1) hF dN_send_1 ?_
  refine jq_iload_n (pc := 4) hF 1 dN_send_4 rfl ?_
  refine jq_cVI (pc := 5) hF (As := [.int (f)]) (rest := []) (mP_isHost l D a cI cZ σ (f) ) (jG_v mL_N_165 mI_P_isHost mS_P_isHost mZ_P mC_P_isHost) rfl rfl rfl dd_P_isHost ⟨Nat.le_of_ble_eq_true rfl, Nat.le_of_ble_eq_true rfl⟩ 1 rfl rfl rfl rfl (Nat.le_of_ble_eq_true rfl) dN_send_5 ?_
  refine jq_if_eqB (pc := 8) hF 19 dN_send_8 rfl (fun h8 => ?_) (fun h8 => ?_)
  · refine jq_iconst (pc := 19) hF dN_send_19 ic_m1 ?_
    exact jq_at (hk 20 _ dN_send_20) (congrArg (wC a cI cZ) (by exact if_neg (by simp [cSendB, h8]))) rfl rfl (congrArg (fun z => [Value.int z]) (by exact if_neg (by simp [cSendB, h8])))
  · refine jq_aload_n (pc := 11) hF 0 dN_send_11 rfl ?_
    refine jq_iload_n (pc := 12) hF 2 dN_send_12 rfl ?_
    refine jq_cVI (pc := 13) hF (As := [.int (t)]) (rest := []) (mN_isDestination l D a cI cZ σ (t) ) (jG_v mL_N_168 mI_N_isDestination mS_N_isDestination mZ_N mC_N_isDestination) rfl rfl rfl dd_N_isDestination ⟨Nat.le_of_ble_eq_true rfl, Nat.le_of_ble_eq_true rfl⟩ 0 rfl rfl rfl rfl (Nat.le_of_ble_eq_true rfl) dN_send_13 ?_
    refine jq_if_neB (pc := 16) hF 21 dN_send_16 rfl (fun h16 => ?_) (fun h16 => ?_)
    · have hB : cSendB σ f t = true := by simp [cSendB, h8, h16]
      obtain ⟨k, rfl, -, hkk⟩ := cIsHost_at hI h8
      refine jq_aload_n (pc := 21) hF 0 dN_send_21 rfl ?_
      refine Cg_N_52 (pc := 22) hF dN_send_22 ?_
      refine jq_cVV (pc := 25) hF (As := []) (rest := []) (mK_startCount l D a cI cZ σ  ) (jG_v mL_N_171 mI_K_startCount mS_K_startCount mZ_K mC_K_startCount) rfl rfl rfl dd_K_startCount ⟨Nat.le_of_ble_eq_true rfl, Nat.le_of_ble_eq_true rfl⟩ 5 rfl rfl rfl rfl (Nat.le_of_ble_eq_true rfl) dN_send_25 ?_
      refine jq_aload_n (pc := 28) hF 0 dN_send_28 rfl ?_
      refine Cg_N_52 (pc := 29) hF dN_send_29 ?_
      refine jq_iload_n (pc := 32) hF 1 dN_send_32 rfl ?_
      refine jq_iload_n (pc := 33) hF 2 dN_send_33 rfl ?_
      refine jq_cVI (pc := 34) hF (As := [.int (nI k), .int (t)]) (rest := []) (mK_carryFromHost l D a cI cZ (sU σ 5 5 (nI 0)) (k) (t) hkk (cIsDest_ok hI h16) (hI.u (by decide))) (jG_v mL_N_174 mI_K_carryFromHost mS_K_carryFromHost mZ_K mC_K_carryFromHost) rfl rfl rfl dd_K_carryFromHost ⟨Nat.le_of_ble_eq_true rfl, Nat.le_of_ble_eq_true rfl⟩ 5 rfl rfl rfl rfl (Nat.le_of_ble_eq_true rfl) dN_send_34 ?_
      exact jq_at (hk 37 _ dN_send_37) (congrArg (wC a cI cZ) (by (rw [if_pos hB, nI_clamp (by omega)]; try rfl))) rfl rfl (congrArg (fun z => [Value.int z]) (by (rw [if_pos hB, nI_clamp (by omega)]; try rfl)))
    · refine jq_iconst (pc := 19) hF dN_send_19 ic_m1 ?_
      exact jq_at (hk 20 _ dN_send_20) (congrArg (wC a cI cZ) (by exact if_neg (by simp [cSendB, h8, h16]))) rfl rfl (congrArg (fun z => [Value.int z]) (by exact if_neg (by simp [cSendB, h8, h16])))
