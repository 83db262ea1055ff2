/-! a wire -/
theorem wire_eq {σ τ : jS} (h : zR σ τ) (x y c : Int32) : cWireB σ x y c = mWireB τ x y c := by
  have hnw := mNw_le h.qT.2.1
  refine beq_of ?_
  unfold cWireB mWireB
  rw [h.2.1.1.1, hnw.2, free_eq h.qT, free_eq h.qT]
  simp only [Bool.and_eq_true, Bool.not_eq_true', decide_eq_false_iff_not, decide_eq_true_eq]
  rw [cW_iff (by decide) (by decide), nI_leI (by decide) (by omega), nI_eq (by omega) (by decide)]
  constructor
  · rintro ⟨⟨⟨⟨h1, h2⟩, h3⟩, h4⟩, k, rfl, hk1, hk⟩
    refine ⟨⟨⟨⟨⟨by omega, h2⟩, h3⟩, h4⟩, ?_⟩, nI_le hk (by decide)⟩
    rw [nI_ltI (by omega) (by decide)]; omega
  · rintro ⟨⟨⟨⟨⟨h1, h2⟩, h3⟩, h4⟩, h5⟩, h6⟩
    refine ⟨⟨⟨⟨by omega, h2⟩, h3⟩, h4⟩, ?_⟩
    have h0 : ¬ c < 0 := fun e => h5 (Int32.lt_trans e (by decide))
    obtain ⟨k, rfl, hk⟩ := (mW_iff (by decide)).mp ⟨h0, h6⟩
    rw [nI_ltI (by omega) (by decide)] at h5
    exact ⟨k, rfl, by omega, hk⟩
theorem wire_rel {σ τ : jS} (h : zR σ τ) {x y c : Int32} (hb : mWireB τ x y c = true) : σ 1 1 = (mLook (mAddW τ x y c) false) 0 5 - nI 1 ∧ zR (cSettle (cAddWire σ x y c)) (mLook (mAddW τ x y c) false) := by
  have hT := h.qT
  have hnb := hT.2.1.nbl
  have hnw := mNw_le hT.2.1
  have e11 : σ 1 1 = nI (mNw τ) := h.2.1.1.1.trans hnw.2
  rw [← wire_eq h] at hb
  unfold cWireB at hb
  simp only [Bool.and_eq_true, Bool.not_eq_true', decide_eq_false_iff_not, decide_eq_true_eq] at hb
  obtain ⟨⟨⟨⟨h10, hfp⟩, hfq⟩, hpq⟩, hc⟩ := hb
  obtain ⟨k, rfl, hk1, hk⟩ := (cW_iff (by decide) (by decide)).mp hc
  obtain ⟨p, rfl, hp, h5p⟩ := (cFree_iff hT x).mp hfp
  obtain ⟨q, rfl, hq, h5q⟩ := (cFree_iff hT y).mp hfq
  have hp24 : p < 24 := by omega
  have hq24 : q < 24 := by omega
  have hne : ¬ p = q := fun e => hpq (by rw [e])
  have hlt : mNw τ < 10 := by
    rw [e11, nI_leI (by decide) (by omega)] at h10
    omega
  have h10' : ¬ τ 0 5 = nI 10 := by rw [hnw.2, nI_eq (by omega) (by decide)]; omega
  have hI : cInv (cAddWire σ (nI p) (nI q) (nI k)) := cAddWire_inv hT.1 h10 ⟨p, hp24, rfl⟩ ⟨q, hq24, rfl⟩
  have hJ : mInv (mAddW τ (nI p) (nI q) (nI k)) := mAddW_inv hT.2.1 h10' ⟨p, hp24, rfl⟩ ⟨q, hq24, rfl⟩
  have e05 : mAddW τ (nI p) (nI q) (nI k) 0 5 = nI (mNw τ + 1) := by
    show τ 0 5 + nI 1 = _
    rw [hnw.2, nI_add]
  have e11' : cAddWire σ (nI p) (nI q) (nI k) 1 1 = nI (mNw τ + 1) := by
    show σ 1 1 + nI 1 = _
    rw [e11, nI_add]
  have cp : (nI p).toNatClampNeg = p := nI_clamp (by omega)
  have cq : (nI q).toNatClampNeg = q := nI_clamp (by omega)
  have cw : (σ 1 1).toNatClampNeg = mNw τ := by rw [e11]; exact nI_clamp (by omega)
  have e7 : ∀ j, cAddWire σ (nI p) (nI q) (nI k) 7 j = if j = mNw τ then nI p else σ 7 j := fun j => by
    have : cAddWire σ (nI p) (nI q) (nI k) 7 j = sU σ 7 (σ 1 1).toNatClampNeg (nI p) 7 j := rfl
    rw [this, sU_eq, cw]
  have e8 : ∀ j, cAddWire σ (nI p) (nI q) (nI k) 8 j = if j = mNw τ then nI k else σ 8 j := fun j => by
    have : cAddWire σ (nI p) (nI q) (nI k) 8 j = sU σ 8 (σ 1 1).toNatClampNeg (nI k) 8 j := rfl
    rw [this, sU_eq, cw]
  have e12 : ∀ j, cAddWire σ (nI p) (nI q) (nI k) 12 j = if j = q then nI (mNw τ) else if j = p then nI (mNw τ) else σ 12 j := fun j => by
    unfold cAddWire
    rw [sU_ne (k := 1) (j := 12) _ _ _ (by decide), sU_ne (k := 13) (j := 12) _ _ _ (by decide), sU_ne (k := 13) (j := 12) _ _ _ (by decide), sU_eq, sU_eq, sU_ne (k := 8) (j := 12) _ _ _ (by decide), sU_ne (k := 7) (j := 12) _ _ _ (by decide), cp, cq, e11]
  have e13 : ∀ j, cAddWire σ (nI p) (nI q) (nI k) 13 j = if j = q then nI p else if j = p then nI q else σ 13 j := fun j => by
    unfold cAddWire
    rw [sU_ne (k := 1) (j := 13) _ _ _ (by decide), sU_eq, sU_eq, sU_ne (k := 12) (j := 13) _ _ _ (by decide), sU_ne (k := 12) (j := 13) _ _ _ (by decide), sU_ne (k := 8) (j := 13) _ _ _ (by decide), sU_ne (k := 7) (j := 13) _ _ _ (by decide), cp, cq]
  have f5 : ∀ j, mAddW τ (nI p) (nI q) (nI k) 5 j = if j = q then nI 1 else if j = p then nI 1 else τ 5 j := fun j => by
    unfold mAddW mPut
    rw [sU_ne (k := 0) (j := 5) _ _ _ (by decide), sU_ne (k := 6) (j := 5) _ _ _ (by decide), sU_eq, sU_ne (k := 6) (j := 5) _ _ _ (by decide), sU_eq, sU_ne (k := 12) (j := 5) _ _ _ (by decide), sU_ne (k := 11) (j := 5) _ _ _ (by decide), sU_ne (k := 10) (j := 5) _ _ _ (by decide), cp, cq]
  have f6 : ∀ j, mAddW τ (nI p) (nI q) (nI k) 6 j = if j = q then nI (mNw τ) else if j = p then nI (mNw τ) else τ 6 j := fun j => by
    unfold mAddW mPut
    rw [sU_ne (k := 0) (j := 6) _ _ _ (by decide), sU_eq, sU_ne (k := 5) (j := 6) _ _ _ (by decide), sU_eq, sU_ne (k := 5) (j := 6) _ _ _ (by decide), sU_ne (k := 12) (j := 6) _ _ _ (by decide), sU_ne (k := 11) (j := 6) _ _ _ (by decide), sU_ne (k := 10) (j := 6) _ _ _ (by decide), cp, cq, hnw.2]
  have f10 : ∀ j, mAddW τ (nI p) (nI q) (nI k) 10 j = if j = mNw τ then nI p else τ 10 j := fun j => by
    have : mAddW τ (nI p) (nI q) (nI k) 10 j = sU τ 10 (τ 0 5).toNatClampNeg (nI p) 10 j := rfl
    rw [this, sU_eq]; rfl
  have f11 : ∀ j, mAddW τ (nI p) (nI q) (nI k) 11 j = if j = mNw τ then nI q else τ 11 j := fun j => by
    have : mAddW τ (nI p) (nI q) (nI k) 11 j = sU τ 11 (τ 0 5).toNatClampNeg (nI q) 11 j := rfl
    rw [this, sU_eq]; rfl
  have f12 : ∀ j, mAddW τ (nI p) (nI q) (nI k) 12 j = if j = mNw τ then nI k else τ 12 j := fun j => by
    have : mAddW τ (nI p) (nI q) (nI k) 12 j = sU τ 12 (τ 0 5).toNatClampNeg (nI k) 12 j := rfl
    rw [this, sU_eq]; rfl
  have hf : fr [7, 8, 12, 13, 1] σ (cAddWire σ (nI p) (nI q) (nI k)) := ((((((fr.rf.u (by decide) _ _).u (by decide) _ _).u (by decide) _ _).u (by decide) _ _).u (by decide) _ _).u (by decide) _ _).u (by decide) _ _
  have hg : fr [10, 11, 12, 5, 6, 0] τ (mAddW τ (nI p) (nI q) (nI k)) := (((((((fr.rf.u (by decide) _ _).u (by decide) _ _).u (by decide) _ _).u (by decide) _ _).u (by decide) _ _).u (by decide) _ _).u (by decide) _ _).u (by decide) _ _
  obtain ⟨w1, w2, w3⟩ := h.2.2.2.1
  have n10 : ¬ nI 1 = nI 0 := by decide
  have hkeep : ∀ x, x < 24 → ¬ τ 5 x = nI 0 → mAddW τ (nI p) (nI q) (nI k) 5 x = τ 5 x ∧ mAddW τ (nI p) (nI q) (nI k) 6 x = τ 6 x := fun x _ hx => by
    rw [f5, f6, if_neg (plug_ne hx h5p), if_neg (plug_ne hx h5p), if_neg (plug_ne hx h5q), if_neg (plug_ne hx h5q)]
    exact ⟨rfl, rfl⟩
  have hold : ∀ x, x < 24 → τ 5 x = nI 1 → ¬ (τ 6 x).toNatClampNeg = mNw τ := fun x hx h5 => by
    obtain ⟨w, hw, e, -⟩ := w3 x hx h5
    rw [e, nI_clamp (by omega)]; omega
  have hnewp : ∀ y, y < 24 → (y = p ∨ y = q) → qP (cAddWire σ (nI p) (nI q) (nI k)) (mAddW τ (nI p) (nI q) (nI k)) y := fun y hy e => by
    have e6y : mAddW τ (nI p) (nI q) (nI k) 6 y = nI (mNw τ) := by
      rw [f6]; rcases e with e | e
      · by_cases e2 : y = q
        · rw [if_pos e2]
        · rw [if_neg e2, if_pos e]
      · rw [if_pos e]
    have h5y : τ 5 y = 0 := by rcases e with rfl | rfl <;> assumption
    have hq14 := ((free_at hT hy).mpr h5y).2
    refine Or.inr (Or.inl ⟨?_, ?_, ?_, ?_, ?_, ?_, ?_⟩)
    · rw [f5]; rcases e with e | e
      · by_cases e2 : y = q
        · rw [if_pos e2]
        · rw [if_neg e2, if_pos e]
      · rw [if_pos e]
    · rw [e6y, e12]; rcases e with e | e
      · by_cases e2 : y = q
        · rw [if_pos e2]
        · rw [if_neg e2, if_pos e]
      · rw [if_pos e]
    · unfold mOther
      rw [e6y, nI_clamp (by omega), f10, if_pos rfl, f11, if_pos rfl, e13]
      rcases e with rfl | rfl
      · rw [if_neg hne, if_pos rfl, if_neg (fun q => q rfl)]
      · rw [if_pos rfl, if_pos (nIne hne (by omega) (by omega))]
    · rw [hf 14 (by decide)]; exact hq14
    · rw [e6y, nI_clamp (by omega), hf 9 (by decide), hg 13 (by decide)]
      exact (w1 _ hlt).1
    · rw [e6y, nI_clamp (by omega), e8, f12, if_pos rfl, if_pos rfl]
    · rw [e6y, nI_clamp (by omega), f12, if_pos rfl]; exact ⟨k, by omega, rfl⟩
  have hL := add_rel h hI hJ hT.2.2.1 (fun b hb => by
      unfold mId
      rw [hf 6 (by decide), hg 1 (by decide)]
      exact hT.2.2.2.1 b hb)
    (fun y hy => by
      by_cases ep : y = p
      · exact hnewp y hy (Or.inl ep)
      · by_cases eq : y = q
        · exact hnewp y hy (Or.inr eq)
        · refine (hT.2.2.2.2.1 y hy).at (by rw [f5, if_neg eq, if_neg ep]) (by rw [f6, if_neg eq, if_neg ep]) (by rw [e12, if_neg eq, if_neg ep]) (by rw [e13, if_neg eq, if_neg ep]) (by rw [hf 14 (by decide)]) (fun h51 => ?_)
          have ho := hold y hy h51
          rw [hf 9 (by decide), hg 13 (by decide), e8, f12, f10, f11, if_neg ho, if_neg ho, if_neg ho, if_neg ho]; exact ⟨rfl, rfl, rfl, rfl, rfl, rfl⟩)
    (fun k hk => hf k (by revert k; decide)) (fun k hk => hg k (by revert k; decide)) rfl rfl
    (fun b hb => by rw [hg 1 (by decide)]) hkeep (fun x hx h51 => ⟨by rw [f12, if_neg (hold x hx h51)], by rw [hg 13 (by decide)]⟩)
  have hnw' : mNw (mAddW τ (nI p) (nI q) (nI k)) = mNw τ + 1 := by
    unfold mNw
    rw [e05, nI_clamp (by omega)]; rfl
  refine ⟨?_, fin_rel hL ?_ (h.2.2.1.of hf hg (by decide) (by decide)) ?_ (h.2.2.2.2.1.of hf hg (by decide) (by decide)) (h.2.2.2.2.2.1.of hf hg (by decide) (by decide)) (h.2.2.2.2.2.2.1.of hf hg (by decide) (by decide)) ?_⟩
  · rw [mLook_fr _ _ 0 (by decide), e05, e11, pk_sub (by omega), Nat.add_sub_cancel]
  · refine ⟨⟨?_, h.2.1.1.2⟩, h.2.1.2⟩
    rw [e05, e11']
  · refine ⟨fun w hw => ?_, fun w hw => ?_, fun y hy hy5 => ?_⟩
    · rw [hf 9 (by decide), hg 13 (by decide)]; exact w1 w hw
    · rw [hnw'] at hw
      unfold zEnd
      rw [e7, f10, f11]
      by_cases e : w = mNw τ
      · rw [if_pos e, if_pos e, if_pos e, cp, cq, f5, f5, f6, f6, if_neg hne, if_pos rfl, if_pos rfl, if_neg hne, if_pos rfl, if_pos rfl, e]
        exact ⟨rfl, ⟨rfl, rfl⟩, ⟨rfl, rfl⟩, nIne hne (by omega) (by omega)⟩
      · rw [if_neg e, if_neg e, if_neg e]
        obtain ⟨a, b, c, d⟩ := w2 w (by omega)
        have hb := hkeep _ ((hT.2.1.eP (w := w) (by omega)).cl (by decide)).1 (by rw [b.1]; exact n10)
        have hc := hkeep _ ((hT.2.1.eQ (w := w) (by omega)).cl (by decide)).1 (by rw [c.1]; exact n10)
        rw [hb.1, hb.2, hc.1, hc.2]
        exact ⟨a, b, c, d⟩
    · rw [hnw']
      by_cases eq : y = q
      · refine ⟨mNw τ, by omega, by rw [f6, if_pos eq], Or.inr ?_⟩
        rw [f11, if_pos rfl, eq]
      · by_cases ep : y = p
        · refine ⟨mNw τ, by omega, by rw [f6, if_neg eq, if_pos ep], Or.inl ?_⟩
          rw [f10, if_pos rfl, ep]
        · rw [f5, if_neg eq, if_neg ep] at hy5
          obtain ⟨w, hw, a, b⟩ := w3 y hy hy5
          refine ⟨w, by omega, by rw [f6, if_neg eq, if_neg ep]; exact a, ?_⟩
          rw [f10, f11, if_neg (by omega), if_neg (by omega)]
          exact b
  · have hB := h.2.2.2.2.2.2.2
    refine ⟨fun b hb => ?_, fun b hb hb6 => ?_, fun y hy hy24 => ?_⟩
    · rw [hg 3 (by decide)]; exact hB.1 b hb
    · rw [hg 3 (by decide)]; exact hB.2.1 b hb hb6
    · have hy' : 4 * mNb τ ≤ y := hy
      rw [f5, if_neg (by omega), if_neg (by omega), hg 23 (by decide), hg 25 (by decide)]; exact hB.2.2 y hy' hy24
