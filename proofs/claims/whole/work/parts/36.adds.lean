/-! bridge, wire, host, router -/
theorem bridge_eq {σ τ : jS} (h : zR σ τ) (x : Int32) : cBridgeB σ x = mBridgeB τ x := by
  have hnb := h.qT.2.1.nbl
  refine beq_of ?_
  unfold cBridgeB mBridgeB
  rw [h.qT.2.2.1, hnb.2, Bool.and_eq_true, Bool.and_eq_true, Bool.and_eq_true, cW_iff (by decide) (by decide)]
  simp only [Bool.not_eq_true', decide_eq_false_iff_not, decide_eq_true_eq]
  rw [nI_leI (by decide) (by omega), nI_eq (by omega) (by decide), and_assoc, mW_iff (by decide)]
  constructor
  · rintro ⟨h1, k, e, -, hk⟩
    exact ⟨by omega, k, e, hk⟩
  · rintro ⟨h1, k, e, hk⟩
    exact ⟨by omega, k, e, by omega, hk⟩
theorem bridge_rel {σ τ : jS} (h : zR σ τ) {x : Int32} (hb : mBridgeB τ x = true) : σ 1 0 = (mLook (mAddB τ x) false) 0 4 - nI 1 ∧ zR (cSettle (cAddBridge σ x)) (mLook (mAddB τ x) false) := by
  have hT := h.qT
  have hnb := hT.2.1.nbl
  unfold mBridgeB at hb
  rw [Bool.and_eq_true, Bool.and_eq_true] at hb
  simp only [Bool.not_eq_true', decide_eq_false_iff_not, decide_eq_true_eq] at hb
  obtain ⟨⟨h6, hx0⟩, hx7⟩ := hb
  obtain ⟨k, rfl, hk⟩ := (mW_iff (by decide)).mp ⟨hx0, hx7⟩
  have hlt : mNb τ < 6 := by
    rw [hnb.2, nI_eq (by omega) (by decide)] at h6
    omega
  have hI : cInv (cAddBridge σ (nI k)) := cAddBridge_inv hT.1 _ (by rw [hT.2.2.1, hnb.2, nI_leI (by decide) (by omega)]; omega)
  have hJ : mInv (mAddB τ (nI k)) := mAddB_inv hT.2.1 _ h6
  have e04 : mAddB τ (nI k) 0 4 = nI (mNb τ + 1) := by
    show τ 0 4 + nI 1 = _
    rw [hnb.2, nI_add]
  have e10 : cAddBridge σ (nI k) 1 0 = nI (mNb τ + 1) := by
    show σ 1 0 + nI 1 = _
    rw [hT.2.2.1, hnb.2, nI_add]
  have hnb' : mNb (mAddB τ (nI k)) = mNb τ + 1 := by
    unfold mNb
    rw [e04, nI_clamp (by omega)]; rfl
  have e6 : ∀ j, cAddBridge σ (nI k) 6 j = if j = mNb τ then nI 8 * nI k + nI (mNb τ) else σ 6 j := fun j => by
    have : cAddBridge σ (nI k) 6 j = sU σ 6 (σ 1 0).toNatClampNeg (nI 8 * nI k + σ 1 0) 6 j := rfl
    rw [this, sU_eq, hT.2.2.1, hnb.2, nI_clamp (by omega)]
  have e1 : ∀ j, mAddB τ (nI k) 1 j = if j = mNb τ then nI k else τ 1 j := fun j => by
    have : mAddB τ (nI k) 1 j = sU τ 1 (τ 0 4).toNatClampNeg (nI k) 1 j := rfl
    rw [this, sU_eq]; rfl
  have hf : fr [6, 1] σ (cAddBridge σ (nI k)) := (fr.rf.u (by decide) _ _).u (by decide) _ _
  have hg : fr [1, 0] τ (mAddB τ (nI k)) := (fr.rf.u (by decide) _ _).u (by decide) _ _
  have hL := add_rel h hI hJ (by rw [e10, e04]) (fun b hb => by
      rw [hnb'] at hb
      unfold mId
      rw [e6, e1]
      by_cases e : b = mNb τ
      · rw [if_pos e, if_pos e, e]
        exact ⟨rfl, ⟨k, by omega, rfl⟩⟩
      · rw [if_neg e, if_neg e]
        exact hT.2.2.2.1 b (by omega))
    (fun p hp => (hT.2.2.2.2.1 p hp).at (by rw [hg 5 (by decide)]) (by rw [hg 6 (by decide)]) (by rw [hf 12 (by decide)]) (by rw [hf 13 (by decide)]) (by rw [hf 14 (by decide)]) (fun _ => by
      rw [hf 9 (by decide), hf 8 (by decide), hg 13 (by decide), hg 12 (by decide), hg 10 (by decide), hg 11 (by decide)]; exact ⟨rfl, rfl, rfl, rfl, rfl, rfl⟩))
    (fun k hk => hf k (by revert k; decide)) (fun k hk => hg k (by revert k; decide)) rfl rfl
    (fun b hb => by rw [e1, if_neg (by omega)]) (fun x _ _ => ⟨by rw [hg 5 (by decide)], by rw [hg 6 (by decide)]⟩) (fun x _ _ => ⟨by rw [hg 12 (by decide)], by rw [hg 13 (by decide)]⟩)
  refine ⟨?_, fin_rel hL ?_ (h.2.2.1.of hf hg (by decide) (by decide)) (h.2.2.2.1.of hf hg (by decide) (by decide) rfl) (h.2.2.2.2.1.of hf hg (by decide) (by decide)) (h.2.2.2.2.2.1.of hf hg (by decide) (by decide)) (h.2.2.2.2.2.2.1.of hf hg (by decide) (by decide)) ?_⟩
  · rw [mLook_fr _ _ 0 (by decide), e04, hT.2.2.1, hnb.2, pk_sub (by omega), Nat.add_sub_cancel]
  · exact h.2.1
  · have hB := h.2.2.2.2.2.2.2
    refine ⟨fun b hb => ?_, fun b hb hb6 => ?_, fun p hp hp24 => ?_⟩
    · rw [hg 3 (by decide)]; exact hB.1 b hb
    · rw [hg 3 (by decide)]; exact hB.2.1 b (by omega) hb6
    · rw [hg 5 (by decide), hg 23 (by decide), hg 25 (by decide)]; exact hB.2.2 p (by omega) hp24
/-- one place is plugged -/
theorem plug_ne {τ : jS} {x p : Nat} (hx : ¬ τ 5 x = nI 0) (hp : τ 5 p = 0) : ¬ x = p := fun e => hx (by rw [e, hp]; decide)
theorem host_eqB {σ τ : jS} (h : zR σ τ) (x s : Int32) : cHostB σ x s = mHostB τ x s := by
  have hnh : mNh τ < 7 ∧ τ 0 6 = nI (mNh τ) := h.qT.2.1.nh.cl (by decide)
  refine beq_of ?_
  unfold cHostB mHostB
  rw [h.2.1.1.2.1, hnh.2, free_eq h.qT]
  simp only [Bool.and_eq_true, Bool.not_eq_true', decide_eq_false_iff_not, decide_eq_true_eq]
  rw [cW_iff (by decide) (by decide), nI_leI (by decide) (by omega), nI_eq (by omega) (by decide), and_assoc (c := s ≤ nI 3), mW_iff (by decide)]
  constructor
  · rintro ⟨⟨h1, h2⟩, k, e, -, hk⟩
    exact ⟨⟨by omega, h2⟩, k, e, hk⟩
  · rintro ⟨⟨h1, h2⟩, k, e, hk⟩
    exact ⟨⟨by omega, h2⟩, k, e, by omega, hk⟩
theorem host_rel {σ τ : jS} (h : zR σ τ) {x s : Int32} (hb : mHostB τ x s = true) : σ 1 2 = (mLook (mAddH τ x s) false) 0 6 - nI 1 ∧ zR (cSettle (cAddHost σ x s)) (mLook (mAddH τ x s) false) := by
  have hT := h.qT
  have hnb := hT.2.1.nbl
  have hnh : mNh τ < 7 ∧ τ 0 6 = nI (mNh τ) := hT.2.1.nh.cl (by decide)
  have e12 : σ 1 2 = nI (mNh τ) := h.2.1.1.2.1.trans hnh.2
  unfold mHostB at hb
  simp only [Bool.and_eq_true, Bool.not_eq_true', decide_eq_false_iff_not, decide_eq_true_eq] at hb
  obtain ⟨⟨⟨h6, hfree⟩, hs0⟩, hs3⟩ := hb
  obtain ⟨k, rfl, hk⟩ := (mW_iff (by decide)).mp ⟨hs0, hs3⟩
  obtain ⟨p, rfl, hp, h5p⟩ := (mFree_iff hT x).mp hfree
  have hp24 : p < 24 := by omega
  have hlt : mNh τ < 6 := by
    rw [hnh.2, nI_eq (by omega) (by decide)] at h6
    omega
  have hI : cInv (cAddHost σ (nI p) (nI k)) := cAddHost_inv hT.1 (by rw [e12, nI_leI (by decide) (by omega)]; omega) ⟨p, hp24, rfl⟩ ⟨k, by omega, rfl⟩
  have hJ : mInv (mAddH τ (nI p) (nI k)) := mAddH_inv hT.2.1 h6 ⟨p, hp24, rfl⟩ ⟨k, by omega, rfl⟩
  have e06 : mAddH τ (nI p) (nI k) 0 6 = nI (mNh τ + 1) := by
    show τ 0 6 + nI 1 = _
    rw [hnh.2, nI_add]
  have e12' : cAddHost σ (nI p) (nI k) 1 2 = nI (mNh τ + 1) := by
    show σ 1 2 + nI 1 = _
    rw [e12, nI_add]
  have e14 : ∀ j, cAddHost σ (nI p) (nI k) 14 j = if j = p then nI (mNh τ) else σ 14 j := fun j => by
    have : cAddHost σ (nI p) (nI k) 14 j = sU σ 14 (nI p).toNatClampNeg (σ 1 2) 14 j := rfl
    rw [this, sU_eq, e12, nI_clamp (by omega)]
  have e10 : ∀ j, cAddHost σ (nI p) (nI k) 10 j = if j = mNh τ then nI p else σ 10 j := fun j => by
    have : cAddHost σ (nI p) (nI k) 10 j = sU σ 10 (σ 1 2).toNatClampNeg (nI p) 10 j := rfl
    rw [this, sU_eq, e12, nI_clamp (by omega)]
  have e11 : ∀ j, cAddHost σ (nI p) (nI k) 11 j = if j = mNh τ then nI k else σ 11 j := fun j => by
    have : cAddHost σ (nI p) (nI k) 11 j = sU σ 11 (σ 1 2).toNatClampNeg (nI k) 11 j := rfl
    rw [this, sU_eq, e12, nI_clamp (by omega)]
  have f5 : ∀ j, mAddH τ (nI p) (nI k) 5 j = if j = p then nI 2 else τ 5 j := fun j => by
    have : mAddH τ (nI p) (nI k) 5 j = sU τ 5 (nI p).toNatClampNeg (nI 2) 5 j := rfl
    rw [this, sU_eq, nI_clamp (by omega)]
  have f6 : ∀ j, mAddH τ (nI p) (nI k) 6 j = if j = p then nI (mNh τ) else τ 6 j := fun j => by
    have : mAddH τ (nI p) (nI k) 6 j = sU τ 6 (nI p).toNatClampNeg (τ 0 6) 6 j := rfl
    rw [this, sU_eq, nI_clamp (by omega), hnh.2]
  have f14 : ∀ j, mAddH τ (nI p) (nI k) 14 j = if j = mNh τ then nI p else τ 14 j := fun j => by
    have : mAddH τ (nI p) (nI k) 14 j = sU τ 14 (τ 0 6).toNatClampNeg (nI p) 14 j := rfl
    rw [this, sU_eq]; rfl
  have f15 : ∀ j, mAddH τ (nI p) (nI k) 15 j = if j = mNh τ then nI k else τ 15 j := fun j => by
    have : mAddH τ (nI p) (nI k) 15 j = sU τ 15 (τ 0 6).toNatClampNeg (nI k) 15 j := rfl
    rw [this, sU_eq]; rfl
  have hf : fr [10, 11, 14, 1] σ (cAddHost σ (nI p) (nI k)) := (((fr.rf.u (by decide) _ _).u (by decide) _ _).u (by decide) _ _).u (by decide) _ _
  have hg : fr [14, 15, 5, 6, 0] τ (mAddH τ (nI p) (nI k)) := ((((fr.rf.u (by decide) _ _).u (by decide) _ _).u (by decide) _ _).u (by decide) _ _).u (by decide) _ _
  have hkeep : ∀ x, x < 24 → ¬ τ 5 x = nI 0 → mAddH τ (nI p) (nI k) 5 x = τ 5 x ∧ mAddH τ (nI p) (nI k) 6 x = τ 6 x := fun x _ hx => by
    rw [f5, f6, if_neg (plug_ne hx h5p), if_neg (plug_ne hx h5p)]
    exact ⟨rfl, rfl⟩
  have hnbq : mNb (mAddH τ (nI p) (nI k)) = mNb τ := rfl
  have hL := add_rel h hI hJ hT.2.2.1 (fun b hb => by
      unfold mId
      rw [hf 6 (by decide), hg 1 (by decide)]
      exact hT.2.2.2.1 b hb)
    (fun y hy => by
      by_cases e : y = p
      · subst e
        have hq := (free_at hT hp24).mpr h5p
        have hq3 : σ 13 y = -1 := by
          rcases hT.2.2.2.2.1 y hp24 with q | q | q | q
          · exact q.2.2.1
          · rw [h5p] at q; exact absurd q.1 (by decide)
          · exact q.2.2.1
          · exact q.2.2.1
        refine Or.inr (Or.inr (Or.inl ⟨?_, ?_, ?_, ?_, ?_⟩))
        · rw [f5, if_pos rfl]
        · rw [hf 12 (by decide)]; exact hq.1
        · rw [hf 13 (by decide)]; exact hq3
        · rw [e14, f6, if_pos rfl, if_pos rfl]
        · rw [f6, if_pos rfl]; exact ⟨mNh τ, hlt, rfl⟩
      · refine (hT.2.2.2.2.1 y hy).at (by rw [f5, if_neg e]) (by rw [f6, if_neg e]) (by rw [hf 12 (by decide)]) (by rw [hf 13 (by decide)]) (by rw [e14, if_neg e]) (fun _ => ?_)
        rw [hf 9 (by decide), hf 8 (by decide), hg 13 (by decide), hg 12 (by decide), hg 10 (by decide), hg 11 (by decide)]; exact ⟨rfl, rfl, rfl, rfl, rfl, rfl⟩)
    (fun k hk => hf k (by revert k; decide)) (fun k hk => hg k (by revert k; decide)) rfl rfl
    (fun b hb => by rw [hg 1 (by decide)]) hkeep (fun x _ _ => ⟨by rw [hg 12 (by decide)], by rw [hg 13 (by decide)]⟩)
  refine ⟨?_, fin_rel hL ?_ (h.2.2.1.of hf hg (by decide) (by decide)) ?_ ?_ (h.2.2.2.2.2.1.of hf hg (by decide) (by decide)) (h.2.2.2.2.2.2.1.of hf hg (by decide) (by decide)) ?_⟩
  · rw [mLook_fr _ _ 0 (by decide), e06, e12, pk_sub (by omega), Nat.add_sub_cancel]
  · refine ⟨⟨h.2.1.1.1, ?_, h.2.1.1.2.2⟩, h.2.1.2⟩
    rw [e06, e12']
  · obtain ⟨w1, w2, w3⟩ := h.2.2.2.1
    have h10 : ¬ nI 1 = nI 0 := by decide
    refine ⟨fun w hw => ?_, fun w hw => ?_, fun y hy hy5 => ?_⟩
    · rw [hf 9 (by decide), hg 13 (by decide)]; exact w1 w hw
    · have hw10 : w < 10 := by have := (mNw_le hT.2.1).1; have hw' : w < mNw τ := hw; omega
      obtain ⟨a, b, c, d⟩ := w2 w hw
      unfold zEnd
      rw [hf 7 (by decide), hg 10 (by decide), hg 11 (by decide)]
      have hb := hkeep _ ((hT.2.1.eP hw10).cl (by decide)).1 (by rw [b.1]; exact h10)
      have hc := hkeep _ ((hT.2.1.eQ hw10).cl (by decide)).1 (by rw [c.1]; exact h10)
      rw [hb.1, hb.2, hc.1, hc.2]
      exact ⟨a, b, c, d⟩
    · have e : ¬ y = p := fun e => by
        rw [f5, if_pos e] at hy5
        exact absurd hy5 (by decide)
      rw [f5, if_neg e] at hy5
      rw [f6, if_neg e, hg 10 (by decide), hg 11 (by decide)]
      exact w3 y hy hy5
  · intro j hj
    rw [e10, e11, f14, f15]
    by_cases e : j = mNh τ
    · rw [if_pos e, if_pos e, if_pos e, if_pos e]; exact ⟨rfl, rfl⟩
    · rw [if_neg e, if_neg e, if_neg e, if_neg e]; exact h.2.2.2.2.1 j hj
  · have hB := h.2.2.2.2.2.2.2
    refine ⟨fun b hb => ?_, fun b hb hb6 => ?_, fun y hy hy24 => ?_⟩
    · rw [hg 3 (by decide)]; exact hB.1 b hb
    · rw [hg 3 (by decide)]; exact hB.2.1 b hb hb6
    · have hy' : 4 * mNb τ ≤ y := hy
      rw [f5, if_neg (by omega), hg 23 (by decide), hg 25 (by decide)]; exact hB.2.2 y hy' hy24
theorem router_eq {σ τ : jS} (h : zR σ τ) (x : Int32) : cRouterB σ x = mRouterB τ x := by
  refine beq_of ?_
  unfold cRouterB mRouterB cHasRouter
  rw [free_eq h.qT, h.2.1.1.2.2]
  rcases h.qT.2.1.rt with e | ⟨k, hk, e⟩
  · rw [e]; simp
  · rw [e]
    have h1 := neg1_ne k (by omega)
    have h2 := nI_pos' (n := k) (by omega)
    simp [h1, h2]
theorem router_rel {σ τ : jS} (h : zR σ τ) {x : Int32} (hb : mRouterB τ x = true) : zR (cSettle (cAddRouter σ x)) (mLook (mAddR τ x) false) := by
  have hT := h.qT
  have hnb := hT.2.1.nbl
  unfold mRouterB at hb
  simp only [Bool.and_eq_true, Bool.not_eq_true', decide_eq_false_iff_not, decide_eq_true_eq] at hb
  obtain ⟨-, hfree⟩ := hb
  obtain ⟨p, rfl, hp, h5p⟩ := (mFree_iff hT x).mp hfree
  have hp24 : p < 24 := by omega
  have hI : cInv (cAddRouter σ (nI p)) := cAddRouter_inv hT.1 ⟨p, hp24, rfl⟩
  have hJ : mInv (mAddR τ (nI p)) := mAddR_inv hT.2.1 ⟨p, hp24, rfl⟩
  have e14 : ∀ j, cAddRouter σ (nI p) 14 j = if j = p then nI 6 else σ 14 j := fun j => by
    have : cAddRouter σ (nI p) 14 j = sU σ 14 (nI p).toNatClampNeg (nI 6) 14 j := rfl
    rw [this, sU_eq, nI_clamp (by omega)]
  have f5 : ∀ j, mAddR τ (nI p) 5 j = if j = p then nI 3 else τ 5 j := fun j => by
    have : mAddR τ (nI p) 5 j = sU τ 5 (nI p).toNatClampNeg (nI 3) 5 j := rfl
    rw [this, sU_eq, nI_clamp (by omega)]
  have f6 : ∀ j, mAddR τ (nI p) 6 j = if j = p then nI 0 else τ 6 j := fun j => by
    have : mAddR τ (nI p) 6 j = sU τ 6 (nI p).toNatClampNeg (nI 0) 6 j := rfl
    rw [this, sU_eq, nI_clamp (by omega)]
  have hf : fr [1, 14] σ (cAddRouter σ (nI p)) := (fr.rf.u (by decide) _ _).u (by decide) _ _
  have hg : fr [0, 5, 6] τ (mAddR τ (nI p)) := ((fr.rf.u (by decide) _ _).u (by decide) _ _).u (by decide) _ _
  have hkeep : ∀ x, x < 24 → ¬ τ 5 x = nI 0 → mAddR τ (nI p) 5 x = τ 5 x ∧ mAddR τ (nI p) 6 x = τ 6 x := fun x _ hx => by
    rw [f5, f6, if_neg (plug_ne hx h5p), if_neg (plug_ne hx h5p)]
    exact ⟨rfl, rfl⟩
  have hL := add_rel h hI hJ hT.2.2.1 (fun b hb => by
      unfold mId
      rw [hf 6 (by decide), hg 1 (by decide)]
      exact hT.2.2.2.1 b hb)
    (fun y hy => by
      by_cases e : y = p
      · subst e
        have hq := (free_at hT hp24).mpr h5p
        have hq3 : σ 13 y = -1 := by
          rcases hT.2.2.2.2.1 y hp24 with q | q | q | q
          · exact q.2.2.1
          · rw [h5p] at q; exact absurd q.1 (by decide)
          · exact q.2.2.1
          · exact q.2.2.1
        refine Or.inr (Or.inr (Or.inr ⟨?_, ?_, ?_, ?_⟩))
        · rw [f5, if_pos rfl]
        · rw [hf 12 (by decide)]; exact hq.1
        · rw [hf 13 (by decide)]; exact hq3
        · rw [e14, if_pos rfl]
      · refine (hT.2.2.2.2.1 y hy).at (by rw [f5, if_neg e]) (by rw [f6, if_neg e]) (by rw [hf 12 (by decide)]) (by rw [hf 13 (by decide)]) (by rw [e14, if_neg e]) (fun _ => ?_)
        rw [hf 9 (by decide), hf 8 (by decide), hg 13 (by decide), hg 12 (by decide), hg 10 (by decide), hg 11 (by decide)]; exact ⟨rfl, rfl, rfl, rfl, rfl, rfl⟩)
    (fun k hk => hf k (by revert k; decide)) (fun k hk => hg k (by revert k; decide)) rfl rfl
    (fun b hb => by rw [hg 1 (by decide)]) hkeep (fun x _ _ => ⟨by rw [hg 12 (by decide)], by rw [hg 13 (by decide)]⟩)
  refine fin_rel hL ?_ (h.2.2.1.of hf hg (by decide) (by decide)) ?_ (h.2.2.2.2.1.of hf hg (by decide) (by decide)) (h.2.2.2.2.2.1.of hf hg (by decide) (by decide)) (h.2.2.2.2.2.2.1.of hf hg (by decide) (by decide)) ?_
  · exact ⟨⟨h.2.1.1.1, h.2.1.1.2.1, rfl⟩, h.2.1.2⟩
  · obtain ⟨w1, w2, w3⟩ := h.2.2.2.1
    have h10 : ¬ nI 1 = nI 0 := by decide
    refine ⟨fun w hw => ?_, fun w hw => ?_, fun y hy hy5 => ?_⟩
    · rw [hf 9 (by decide), hg 13 (by decide)]; exact w1 w hw
    · have hw10 : w < 10 := by have := (mNw_le hT.2.1).1; have hw' : w < mNw τ := hw; omega
      obtain ⟨a, b, c, d⟩ := w2 w hw
      unfold zEnd
      rw [hf 7 (by decide), hg 10 (by decide), hg 11 (by decide)]
      have hb := hkeep _ ((hT.2.1.eP hw10).cl (by decide)).1 (by rw [b.1]; exact h10)
      have hc := hkeep _ ((hT.2.1.eQ hw10).cl (by decide)).1 (by rw [c.1]; exact h10)
      rw [hb.1, hb.2, hc.1, hc.2]
      exact ⟨a, b, c, d⟩
    · have e : ¬ y = p := fun e => by
        rw [f5, if_pos e] at hy5
        exact absurd hy5 (by decide)
      rw [f5, if_neg e] at hy5
      rw [f6, if_neg e, hg 10 (by decide), hg 11 (by decide)]
      exact w3 y hy hy5
  · have hB := h.2.2.2.2.2.2.2
    refine ⟨fun b hb => ?_, fun b hb hb6 => ?_, fun y hy hy24 => ?_⟩
    · rw [hg 3 (by decide)]; exact hB.1 b hb
    · rw [hg 3 (by decide)]; exact hB.2.1 b hb hb6
    · have hy' : 4 * mNb τ ≤ y := hy
      rw [f5, if_neg (by omega), hg 23 (by decide), hg 25 (by decide)]; exact hB.2.2 y hy' hy24
