/-! access, trunk, cut -/
theorem qL.of {σ σ' τ τ' : jS} {n : Nat} (h : qL σ τ n) (hI : cInv σ') (hJ : mInv τ') (hc : ∀ k ∈ [1, 3, 6, 8, 9, 12, 13, 14, 18, 19, 22, 23, 24, 25, 26, 27, 29], σ' k = σ k)
    (hm : ∀ k ∈ [1, 3, 5, 6, 10, 11, 12, 13, 16, 17, 18, 19, 20, 21, 22, 23, 24, 25], τ' k = τ k) (h01 : τ' 0 1 = τ 0 1) (h03 : τ' 0 3 = τ 0 3) (h04 : τ' 0 4 = τ 0 4) : qL σ' τ' n := by
  obtain ⟨hT, hR, hS, hN, ht, hd, hpre⟩ := h
  have hnb : mNb τ' = mNb τ := by unfold mNb; rw [h04]
  have hs : mSame τ τ' := fun k hk => hm k (by revert k; decide)
  have hT' : qT σ' τ' := by
    refine ⟨hI, hJ, ?_, fun b hb => ?_, fun p hp => ?_, fun p hp => ?_⟩
    · rw [hc 1 (by decide), h04]; exact hT.2.2.1
    · rw [hnb] at hb
      unfold mId
      rw [hc 6 (by decide), hm 1 (by decide)]; exact hT.2.2.2.1 b hb
    · refine (hT.2.2.2.2.1 p hp).at (by rw [hm 5 (by decide)]) (by rw [hm 6 (by decide)]) (by rw [hc 12 (by decide)]) (by rw [hc 13 (by decide)]) (by rw [hc 14 (by decide)]) (fun _ => ?_)
      rw [hc 9 (by decide), hc 8 (by decide), hm 13 (by decide), hm 12 (by decide), hm 10 (by decide), hm 11 (by decide)]; exact ⟨rfl, rfl, rfl, rfl, rfl, rfl⟩
    · refine (hT.2.2.2.2.2 p hp).at (hc 18 (by decide)) (hc 19 (by decide)) (fun k hk => hm k (by revert k; decide)) (fun _ => ?_)
      rw [hm 5 (by decide), hm 6 (by decide), hm 13 (by decide)]; exact ⟨rfl, rfl, rfl⟩
  refine ⟨hT', fun b hb => ?_, fun p hp => ?_, fun b hb => ?_, ?_, ?_, fun p hp => ?_⟩
  · rw [hnb] at hb
    have := hR b hb
    unfold qR at this ⊢
    rw [mRootOf_congr hs, mDist_congr hs, mPort_congr hs, hm 16 (by decide), hc 22 (by decide), hc 23 (by decide), hc 24 (by decide)]
    exact this
  · have := hS p hp
    unfold qS at this ⊢
    rw [hc 25 (by decide), hc 26 (by decide), hc 27 (by decide), hm 23 (by decide), hm 24 (by decide), hm 25 (by decide)]; exact this
  · rw [hc 29 (by decide), hm 3 (by decide)]; exact hN b hb
  · rw [hc 3 (by decide), h03]; exact ht
  · rw [hc 3 (by decide), h01]; exact hd
  · have := hpre p hp
    unfold mState at this ⊢
    rw [hc 25 (by decide), hc 27 (by decide), mRole_congr hs, h01, h03, hm 24 (by decide)]
    exact this
theorem zB.of {ls : List Nat} {τ τ' : jS} (h : zB τ) (hg : fr ls τ τ') (hl : ∀ k ∈ [3, 5, 23, 25], k ∉ ls) (h4 : τ' 0 4 = τ 0 4) : zB τ' := by
  unfold zB mNb at h ⊢
  rw [hg 3 (hl _ (by decide)), hg 5 (hl _ (by decide)), hg 23 (hl _ (by decide)), hg 25 (hl _ (by decide)), h4]; exact h
theorem mInv.own8 {τ : jS} (hI : mInv τ) {i : Nat} {v : Int32} (hv : okP 4 v) : mInv (sU τ 8 i v) := by
  refine ⟨hI.1, hI.2.1, hI.2.2.1, hI.2.2.2.1, hI.2.2.2.2.1, fun j hj => ?_, hI.2.2.2.2.2.2⟩
  rw [sU_eq]
  split
  · exact hv
  · exact hI.own hj
theorem access_eq {σ τ : jS} (h : zR σ τ) (x n : Int32) : cAccessB σ x n = mAccessB τ x n := by
  refine beq_of ?_
  unfold cAccessB mAccessB
  rw [place_eq h.qT]
  simp only [Bool.and_eq_true, Bool.not_eq_true', decide_eq_false_iff_not, decide_eq_true_eq]
  rw [cW_iff (by decide) (by decide), and_assoc, mW_iff (by decide)]
  constructor
  · rintro ⟨h1, k, e, -, hk⟩
    exact ⟨h1, k, e, hk⟩
  · rintro ⟨h1, k, e, hk⟩
    exact ⟨h1, k, e, by omega, hk⟩
theorem net_rel {σ τ : jS} (h : zR σ τ) {p : Nat} {n m : Int32} {t : Int32} (hn : okP 4 n) (ht : t = 0 → m = nI 1 <<< (n &&& 31)) :
    zR (sU (sU (sU σ 15 p n) 16 p m) 17 p t) (sU (sU (sU τ 7 p t) 8 p n) 9 p m) := by
  have hT := h.qT
  have hf : fr [15, 16, 17] σ (sU (sU (sU σ 15 p n) 16 p m) 17 p t) := ((fr.rf.u (by decide) _ _).u (by decide) _ _).u (by decide) _ _
  have hg : fr [7, 8, 9] τ (sU (sU (sU τ 7 p t) 8 p n) 9 p m) := ((fr.rf.u (by decide) _ _).u (by decide) _ _).u (by decide) _ _
  have hI : cInv (sU (sU (sU σ 15 p n) 16 p m) 17 p t) := by
    have hI := hT.1
    refine ⟨hI.1, hI.2.1, hI.2.2.1, hI.2.2.2.1, hI.2.2.2.2.1, hI.2.2.2.2.2.1, hI.2.2.2.2.2.2.1, hI.2.2.2.2.2.2.2.1, hI.2.2.2.2.2.2.2.2.1, fun j hj => ?_, hI.2.2.2.2.2.2.2.2.2.2⟩
    have e : sU (sU (sU σ 15 p n) 16 p m) 17 p t 15 j = if j = p then n else σ 15 j := sU_eq σ 15 p n j
    rw [e]
    split
    · exact hn
    · exact hI.unt hj
  have hJ : mInv (sU (sU (sU τ 7 p t) 8 p n) 9 p m) := ((hT.2.1.u (by decide)).own8 hn).u (by decide)
  refine ⟨h.1.of hI hJ (fun k hk => hf k (by revert k; decide)) (fun k hk => hg k (by revert k; decide)) rfl rfl rfl, ?_, h.2.2.1.of hf hg (by decide) (by decide), h.2.2.2.1.of hf hg (by decide) (by decide) rfl, h.2.2.2.2.1.of hf hg (by decide) (by decide), ?_, h.2.2.2.2.2.2.1.of hf hg (by decide) (by decide), h.2.2.2.2.2.2.2.of hg (by decide) rfl⟩
  · unfold zS
    rw [hf 0 (by decide), hf 1 (by decide), hf 3 (by decide), hf 5 (by decide), hg 0 (by decide)]
    exact h.2.1
  · intro j hj
    have e15 : sU (sU (sU σ 15 p n) 16 p m) 17 p t 15 j = if j = p then n else σ 15 j := sU_eq σ 15 p n j
    have e16 : sU (sU (sU σ 15 p n) 16 p m) 17 p t 16 j = if j = p then m else σ 16 j := sU_eq (sU σ 15 p n) 16 p m j
    have e17 : sU (sU (sU σ 15 p n) 16 p m) 17 p t 17 j = if j = p then t else σ 17 j := sU_eq _ 17 p t j
    have f7 : sU (sU (sU τ 7 p t) 8 p n) 9 p m 7 j = if j = p then t else τ 7 j := sU_eq τ 7 p t j
    have f8 : sU (sU (sU τ 7 p t) 8 p n) 9 p m 8 j = if j = p then n else τ 8 j := sU_eq (sU τ 7 p t) 8 p n j
    have f9 : sU (sU (sU τ 7 p t) 8 p n) 9 p m 9 j = if j = p then m else τ 9 j := sU_eq _ 9 p m j
    rw [e15, e16, e17, f7, f8, f9]
    by_cases e : j = p
    · rw [if_pos e, if_pos e, if_pos e, if_pos e, if_pos e, if_pos e]; exact ⟨rfl, rfl, rfl, ht⟩
    · rw [if_neg e, if_neg e, if_neg e, if_neg e, if_neg e, if_neg e]; exact h.2.2.2.2.2.1 j hj
theorem access_rel {σ τ : jS} (h : zR σ τ) {x n : Int32} (hb : mAccessB τ x n = true) : zR (cAccess σ x n) (mAccess τ x n) := by
  rw [← access_eq h] at hb
  unfold cAccessB at hb
  rw [Bool.and_eq_true] at hb
  exact net_rel h (net_ok hb.2) (fun _ => rfl)
theorem trunk_eq {σ τ : jS} (h : zR σ τ) (x n m : Int32) : cTrunkB σ x n m = mTrunkB τ x n m := by
  refine beq_of ?_
  unfold cTrunkB mTrunkB
  rw [place_eq h.qT]
  simp only [Bool.and_eq_true, Bool.not_eq_true', decide_eq_false_iff_not, decide_eq_true_eq]
  rw [cW_iff (by decide) (by decide), cW_iff (by decide) (by decide), and_assoc (c := m ≤ nI 15), mW_iff (by decide), show (¬ nI 3 < n) = (n ≤ nI 3) from propext Int32.not_lt, and_assoc (c := n ≤ nI 3), mW_iff (by decide)]
  constructor
  · rintro ⟨⟨h1, k, e, -, hk⟩, j, e2, -, hj⟩
    exact ⟨⟨h1, k, e, hk⟩, j, e2, hj⟩
  · rintro ⟨⟨h1, k, e, hk⟩, j, e2, hj⟩
    exact ⟨⟨h1, k, e, by omega, hk⟩, j, e2, by omega, hj⟩
theorem trunk_rel {σ τ : jS} (h : zR σ τ) {x n m : Int32} (hb : mTrunkB τ x n m = true) : zR (cTrunk σ x n m) (mTrunk τ x n m) := by
  rw [← trunk_eq h] at hb
  unfold cTrunkB at hb
  rw [Bool.and_eq_true, Bool.and_eq_true] at hb
  exact net_rel h (net_ok hb.1.2) (fun e => absurd e (by decide))
theorem wire_at {σ τ : jS} (h : zR σ τ) {w : Nat} (hw : w < mNw τ) : ∃ P Q, P < 24 ∧ Q < 24 ∧ ¬ P = Q ∧ σ 7 w = nI P ∧ τ 10 w = nI P ∧ τ 11 w = nI Q ∧ σ 13 P = nI Q ∧ τ 5 P = nI 1 ∧ τ 5 Q = nI 1 ∧ τ 6 P = nI w ∧ τ 6 Q = nI w := by
  have hT := h.qT
  have hnw := mNw_le hT.2.1
  obtain ⟨P, hP, eP⟩ := hT.2.1.eP (w := w) (by omega)
  obtain ⟨Q, hQ, eQ⟩ := hT.2.1.eQ (w := w) (by omega)
  obtain ⟨a, b, c, d⟩ := h.2.2.2.1.2.1 w hw
  unfold zEnd at b c
  rw [eP, nI_clamp (by omega)] at b
  rw [eQ, nI_clamp (by omega)] at c
  rw [eP] at a
  rw [eP, eQ] at d
  have hne : ¬ P = Q := fun e => d (by rw [e])
  refine ⟨P, Q, hP, hQ, hne, a, eP, eQ, ?_, b.1, c.1, b.2, c.2⟩
  rcases hT.2.2.2.2.1 P hP with q | q | q | q
  · exact absurd (b.1.symm.trans q.1) (by decide)
  · rw [q.2.2.1]
    unfold mOther
    rw [b.2, nI_clamp (by omega), eP, if_neg (fun q => q rfl), eQ]
  · exact absurd (b.1.symm.trans q.1) (by decide)
  · exact absurd (b.1.symm.trans q.1) (by decide)
theorem cut_iff {σ τ : jS} (h : zR σ τ) (x : Int32) (off : Bool) : mCutB τ x off = true ↔ ∃ w, x = nI w ∧ w < mNw τ ∧ ¬ τ 13 w = bI off := by
  have hnw := mNw_le h.qT.2.1
  unfold mCutB
  rw [hnw.2]
  simp only [Bool.and_eq_true, Bool.not_eq_true', decide_eq_false_iff_not, decide_eq_true_eq]
  have := mC_iff (x := x) (n := mNw τ) (by omega)
  rw [Int32.not_le] at this
  rw [this]
  constructor
  · rintro ⟨⟨k, rfl, hk⟩, h2⟩
    rw [nI_clamp (by omega)] at h2
    exact ⟨k, rfl, hk, h2⟩
  · rintro ⟨k, rfl, hk, h2⟩
    exact ⟨⟨k, rfl, hk⟩, by rw [nI_clamp (by omega)]; exact h2⟩
theorem cut_eq {σ τ : jS} (h : zR σ τ) (x : Int32) (off : Bool) : cCutB σ x off = mCutB τ x off := by
  have hnw := mNw_le h.qT.2.1
  refine beq_of ?_
  rw [cut_iff h]
  unfold cCutB
  rw [h.2.1.1.1, hnw.2, Bool.and_eq_true, cC_iff (by omega)]
  simp only [Bool.not_eq_true', decide_eq_false_iff_not]
  constructor
  · rintro ⟨⟨k, rfl, hk⟩, h2⟩
    rw [nI_clamp (by omega), (h.2.2.2.1.1 k (by omega)).1] at h2
    exact ⟨k, rfl, hk, h2⟩
  · rintro ⟨k, rfl, hk, h2⟩
    exact ⟨⟨k, rfl, hk⟩, by rw [nI_clamp (by omega), (h.2.2.2.1.1 k (by omega)).1]; exact h2⟩
theorem cut_rel {σ τ : jS} (h : zR σ τ) {x : Int32} {off : Bool} (hb : mCutB τ x off = true) : zR (cCutS σ x off) (mCutS τ x off) := by
  have hT := h.qT
  have hnw := mNw_le hT.2.1
  obtain ⟨w, rfl, hw, -⟩ := (cut_iff h x off).mp hb
  obtain ⟨P, Q, hP, hQ, hne, e7, e10, e11, e13, e5P, e5Q, e6P, e6Q⟩ := wire_at h hw
  have cw : (nI w).toNatClampNeg = w := nI_clamp (by omega)
  have hS : cCutS σ (nI w) off = cSettle (sU (sU (sU σ 9 w (bI off)) 19 P (nI 0)) 19 Q (nI 0)) := by
    unfold cCutS cDrop
    rw [cw, e7, nI_clamp (n := P) (by omega), e13, nI_clamp (n := Q) (by omega)]
  have hM : mCutS τ (nI w) off = mLook (sU (sU (sU τ 13 w (bI off)) 16 P (nI 0)) 16 Q (nI 0)) true := by
    unfold mCutS
    rw [cw, e10, e11, nI_clamp (n := P) (by omega), nI_clamp (n := Q) (by omega)]
  rw [hS, hM]
  have hf : fr [9, 19] σ (sU (sU (sU σ 9 w (bI off)) 19 P (nI 0)) 19 Q (nI 0)) := ((fr.rf.u (by decide) _ _).u (by decide) _ _).u (by decide) _ _
  have hg : fr [13, 16] τ (sU (sU (sU τ 13 w (bI off)) 16 P (nI 0)) 16 Q (nI 0)) := ((fr.rf.u (by decide) _ _).u (by decide) _ _).u (by decide) _ _
  have e9 : ∀ j, sU (sU (sU σ 9 w (bI off)) 19 P (nI 0)) 19 Q (nI 0) 9 j = if j = w then bI off else σ 9 j := fun j => by
    rw [sU_ne (k := 19) (j := 9) _ _ _ (by decide), sU_ne (k := 19) (j := 9) _ _ _ (by decide), sU_eq]
  have e19 : ∀ j, sU (sU (sU σ 9 w (bI off)) 19 P (nI 0)) 19 Q (nI 0) 19 j = if j = Q then nI 0 else if j = P then nI 0 else σ 19 j := fun j => by
    rw [sU_eq, sU_eq, sU_ne (k := 9) (j := 19) _ _ _ (by decide)]
  have f13 : ∀ j, sU (sU (sU τ 13 w (bI off)) 16 P (nI 0)) 16 Q (nI 0) 13 j = if j = w then bI off else τ 13 j := fun j => by
    rw [sU_ne (k := 16) (j := 13) _ _ _ (by decide), sU_ne (k := 16) (j := 13) _ _ _ (by decide), sU_eq]
  have f16 : ∀ j, sU (sU (sU τ 13 w (bI off)) 16 P (nI 0)) 16 Q (nI 0) 16 j = if j = Q then nI 0 else if j = P then nI 0 else τ 16 j := fun j => by
    rw [sU_eq, sU_eq, sU_ne (k := 13) (j := 16) _ _ _ (by decide)]
  generalize sU (sU (sU σ 9 w (bI off)) 19 P (nI 0)) 19 Q (nI 0) = σ' at hf e9 e19 ⊢
  generalize sU (sU (sU τ 13 w (bI off)) 16 P (nI 0)) 16 Q (nI 0) = τ' at hg f13 f16 ⊢
  have hI : cInv σ' := hT.1.of_fr hf (by decide)
  have hJ : mInv τ' := hT.2.1.of_fr hg (by decide)
  have e0 := hg 0 (by decide)
  have hnb : mNb τ' = mNb τ := by unfold mNb; rw [e0]
  obtain ⟨w1, w2, w3⟩ := h.2.2.2.1
  have hcut : ∀ j, j < 10 → σ' 9 j = τ' 13 j ∧ okP 2 (τ' 13 j) := fun j hj => by
    rw [e9, f13]
    by_cases e : j = w
    · rw [if_pos e, if_pos e]; exact ⟨rfl, okP_bI _⟩
    · rw [if_neg e, if_neg e]; exact w1 j hj
  have hT' : qT σ' τ' := by
    refine ⟨hI, hJ, ?_, fun b hb => ?_, fun p hp => ?_, fun p hp => ?_⟩
    · rw [hf 1 (by decide), e0]; exact hT.2.2.1
    · rw [hnb] at hb
      unfold mId
      rw [hf 6 (by decide), hg 1 (by decide)]; exact hT.2.2.2.1 b hb
    · have hwi := ((hT.2.1.wi hp).cl (by decide)).1
      unfold qP mOther
      rw [hg 5 (by decide), hg 6 (by decide), hg 10 (by decide), hg 11 (by decide), hg 12 (by decide), hf 12 (by decide), hf 13 (by decide), hf 14 (by decide), hf 8 (by decide)]
      rcases hT.2.2.2.2.1 p hp with q | q | q | q
      · exact Or.inl q
      · exact Or.inr (Or.inl ⟨q.1, q.2.1, q.2.2.1, q.2.2.2.1, (hcut _ hwi).1, q.2.2.2.2.2⟩)
      · exact Or.inr (Or.inr (Or.inl q))
      · exact Or.inr (Or.inr (Or.inr q))
    · have q := hT.2.2.2.2.2 p hp
      unfold qM
      rw [hf 18 (by decide), e19, f16, hg 17 (by decide), hg 18 (by decide), hg 19 (by decide), hg 20 (by decide), hg 21 (by decide), hg 22 (by decide), hg 5 (by decide), hg 6 (by decide)]
      by_cases eq : p = Q
      · rw [if_pos eq, if_pos eq]
        exact ⟨rfl, ⟨0, by decide, rfl⟩, q.2.2.1, q.2.2.2.1, q.2.2.2.2.1, q.2.2.2.2.2.1, q.2.2.2.2.2.2.1, q.2.2.2.2.2.2.2.1, fun hh => absurd (by decide) hh⟩
      · rw [if_neg eq, if_neg eq]
        by_cases ep : p = P
        · rw [if_pos ep, if_pos ep]
          exact ⟨rfl, ⟨0, by decide, rfl⟩, q.2.2.1, q.2.2.2.1, q.2.2.2.2.1, q.2.2.2.2.2.1, q.2.2.2.2.2.2.1, q.2.2.2.2.2.2.2.1, fun hh => absurd (by decide) hh⟩
        · rw [if_neg ep, if_neg ep]
          refine ⟨q.1, q.2.1, q.2.2.1, q.2.2.2.1, q.2.2.2.2.1, q.2.2.2.2.2.1, q.2.2.2.2.2.2.1, q.2.2.2.2.2.2.2.1, fun hh => ?_⟩
          obtain ⟨h5, h13, hr⟩ := q.2.2.2.2.2.2.2.2 hh
          refine ⟨h5, ?_, hr⟩
          obtain ⟨w', hw', e6, hor⟩ := w3 p hp h5
          rw [e6, nI_clamp (by omega)] at h13 ⊢
          rw [f13, if_neg (fun e => ?_)]
          · exact h13
          · subst e
            rcases hor with e | e
            · exact ep ((nI_eq (by omega) (by omega)).mp (e10.symm.trans e)).symm
            · exact eq ((nI_eq (by omega) (by omega)).mp (e11.symm.trans e)).symm
  have hL := settle_rel true hT' (fun p hp => by
      have := h.1.2.2.1 p hp
      unfold qS at this ⊢
      rw [hf 25 (by decide), hf 26 (by decide), hf 27 (by decide), hg 23 (by decide), hg 24 (by decide), hg 25 (by decide)]; exact this)
    (fun b hb => by rw [hf 29 (by decide), hg 3 (by decide)]; exact h.1.2.2.2.1 b hb) (by rw [hf 3 (by decide), e0]; exact h.1.2.2.2.2.1) (by rw [hf 3 (by decide), e0]; exact h.1.2.2.2.2.2.1) (fun e => absurd e (by decide))
  refine fin_rel hL ?_ (h.2.2.1.of hf hg (by decide) (by decide)) ?_ (h.2.2.2.2.1.of hf hg (by decide) (by decide)) (h.2.2.2.2.2.1.of hf hg (by decide) (by decide)) (h.2.2.2.2.2.2.1.of hf hg (by decide) (by decide)) (h.2.2.2.2.2.2.2.of hg (by decide) (by rw [e0]))
  · unfold zS
    rw [hf 0 (by decide), hf 1 (by decide), hf 3 (by decide), hf 5 (by decide), e0]
    exact h.2.1
  · unfold zW zEnd mNw
    rw [hf 7 (by decide), hg 5 (by decide), hg 6 (by decide), hg 10 (by decide), hg 11 (by decide), e0]
    exact ⟨hcut, w2, w3⟩
