/-! a whole frame; send and ask -/
theorem state_cases (τ : jS) (p : Nat) : mState τ p = nI 0 ∨ mState τ p = nI 1 ∨ mState τ p = nI 2 ∨ mState τ p = nI 3 := by
  unfold mState
  split
  · exact Or.inl rfl
  · split
    · split
      · split
        · exact Or.inr (Or.inr (Or.inr rfl))
        · exact Or.inr (Or.inr (Or.inl rfl))
      · exact Or.inr (Or.inl rfl)
    · exact Or.inl rfl
theorem kR.known {σ τ s t : jS} {src : Nat} {tgt : Int32} (h : kR σ τ src tgt s t) {p v : Nat} (hp : p < 24) (hv : v < 4) (hT : okQ 7 tgt) : (cKnown s p v = -1 ∧ mKnown t p v tgt = nI 0) ∨ ∃ j, j < 4 ∧ cKnown s p v = nI j ∧ mKnown t p v tgt = nI (j + 1) := by
  obtain ⟨hf, hg, h0, k5, k1, k2, hI, hJ, e0, e3, e4, ha, hE⟩ := h
  unfold cKnown mKnown
  rw [k2]
  rcases hT with rfl | ⟨k, hk, rfl⟩
  · rw [if_neg (fun q => q rfl), if_neg (by decide)]
    exact Or.inl ⟨rfl, rfl⟩
  · rw [if_pos (neg1_ne k (by omega)), if_pos (nI_pos' (by omega)), nI_clamp (by omega)]
    unfold cPort
    rw [show (4 * (p / 4) + v) * 7 + k = 28 * (p / 4) + 7 * v + k by omega]
    exact (hE _ (by omega)).1
theorem kR.handle {σ τ s t : jS} {src : Nat} {tgt : Int32} (hZ : zR σ τ) (h : kR σ τ src tgt s t) {p : Nat} {tag : Int32} (hp : p < 24) (ht : okQ 4 tag) (hs : src < 7) (hT : okQ 7 tgt) : kR σ τ src tgt (cHandle s p tag) (mHandle t p tag src tgt) := by
  have hst := h.st hZ hp
  have hV := hZ.2.2.2.2.2.1 p hp
  have hnet := mNet_ok h.2.2.2.2.2.2.2.1.1 hp ht
  obtain ⟨hv, ev⟩ := hnet.cl (by decide)
  have e1 : (if ¬ tag = -1 then tag else s 15 p) = mNet t p tag := by
    unfold mNet
    rw [h.1 15 (by decide), hV.1, h.2.1 8 (by decide)]
    by_cases e : tag = -1
    · rw [if_neg (fun q => q e), if_neg (fun q => (tag_neg ht).mp q e)]
    · rw [if_pos e, if_pos ((tag_neg ht).mpr e)]
  have e17 : s 17 p = t 7 p := by rw [h.1 17 (by decide), hV.2.2.1, h.2.1 7 (by decide)]
  have hin : cInside s p tag = if (decide (tag < 0) || !decide (t 7 p = 0)) = true then (if mIsMember t p (mNet t p tag) = true then mNet t p tag else -1) else -1 := by
    unfold cInside
    rw [e1, e17, h.mem hZ hp]
    by_cases e : tag = -1
    · have hd : (decide (tag < 0) || !decide (t 7 p = 0)) = true := by rw [e, show decide ((-1 : Int32) < 0) = true by decide]; rfl
      rw [if_neg (fun q => q.1 e), if_pos hd]
    · have : ¬ tag < 0 := Int32.not_lt.mpr ((tag_neg ht).mpr e)
      rw [decide_eq_false this, Bool.false_or]
      by_cases e7 : t 7 p = 0
      · rw [if_pos ⟨e, e7⟩, decide_eq_true e7, if_neg (by decide)]
      · rw [if_neg (fun q => e7 q.2), decide_eq_false e7, if_pos (show (!false) = true from rfl)]
  unfold cHandle mHandle mHandB
  rw [← ev, hst]
  by_cases h1 : mState t p < nI 2
  · rw [if_pos h1, if_neg (by rw [decide_eq_true h1]; simp)]
    exact h
  · rw [if_neg h1, decide_eq_false h1, Bool.not_false, Bool.true_and]
    by_cases h2 : (decide (tag < 0) || !decide (t 7 p = 0)) = true
    · rw [if_pos h2] at hin
      rw [h2, Bool.true_and]
      by_cases h3 : mIsMember t p (mNet t p tag) = true
      · rw [if_pos h3] at hin
        have hne : ¬ cInside s p tag = -1 := by rw [hin, ev]; exact neg1_ne _ (by omega)
        rw [if_pos hne, if_pos h3]
        have hl : cLearnS s p tag = cLearn s p (mNet t p tag).toNatClampNeg src (s 3 2) := by
          unfold cLearnS
          rw [hin, h.2.2.2.2.1, nI_clamp (n := src) (by omega)]
        have hk := h.learn hZ hp hv hs
        rw [hl, hin]
        unfold mHandG
        have e27 : cLearn s p (mNet t p tag).toNatClampNeg src (s 3 2) 27 p = mState t p := by rw [cLearn_fr _ _ _ _ _ 27 (by decide)]; exact hst
        rw [e27]
        have hkn := hk.known hp hv hT
        by_cases h4 : mState t p = nI 3
        · rw [if_neg (fun q => q h4), if_pos (by rw [h4]; decide)]
          exact hk.fwd hZ hp hv hkn 4 (Nat.le_refl _)
        · have h5 : mState t p = nI 2 := by
            rcases state_cases t p with e | e | e | e
            · rw [e] at h1; exact absurd (by decide) h1
            · rw [e] at h1; exact absurd (by decide) h1
            · exact e
            · exact absurd e h4
          rw [if_pos h4, if_neg (fun q => q h5)]
          exact hk
      · rw [if_neg h3] at hin
        rw [hin, if_neg (fun q => q rfl), if_neg h3]
        exact h
    · rw [if_neg h2] at hin
      rw [hin, if_neg (fun q => q rfl), if_neg (fun q => h2 (by rw [Bool.and_eq_true] at q; exact q.1))]
      exact h
theorem kR.run {σ τ : jS} {src : Nat} {tgt : Int32} (hZ : zR σ τ) (hs : src < 7) (hT : okQ 7 tgt) : ∀ (f i : Nat) (s t : jS), i + f = 61 → kR σ τ src tgt s t → kR σ τ src tgt (cRun i f s) (mRun src tgt i (f + 3) t) := by
  intro f
  induction f with
  | zero =>
    intro i s t hi h
    obtain ⟨c, n, ec, en, hc6, hnc⟩ := h.2.2.2.2.2.2.2.1.2
    have hle : t 0 8 ≤ nI i := by rw [en]; exact nI_le (by omega) (by omega)
    rw [mRun_stop hle]
    exact h
  | succ f ih =>
    intro i s t hi h
    obtain ⟨c, n, ec, en, hc6, hnc⟩ := h.2.2.2.2.2.2.2.1.2
    have e0 := h.2.2.2.2.2.2.2.2.1
    by_cases hle : t 0 8 ≤ nI i
    · rw [mRun_stop hle, cRun_stop (by rw [e0]; exact hle)]
      exact h
    · rw [cRun_go (by rw [e0]; exact hle), show f + 1 + 3 = (f + 3) + 1 by omega, mRun_go hle]
      have hin : i < n := by
        rw [en, nI_leI (by omega) (by omega)] at hle
        omega
      have ha := h.2.2.2.2.2.2.2.2.2.2.2.1 i (by rw [en, nI_clamp (by omega)]; exact hin)
      rw [ha.1, ha.2]
      have hp := ((h.2.2.2.2.2.2.2.1.1.ln (i := i) (by omega)).cl (by decide)).1
      exact ih (i + 1) _ _ (by omega) (h.handle hZ hp (h.2.2.2.2.2.2.2.1.1.lt (by omega)) hs hT)
theorem kR.start {σ τ : jS} {src : Nat} {tgt x g : Int32} (hZ : zR σ τ) (hs : src < 7) (hT : okQ 7 tgt) (hx : okP 24 x) (hg : okQ 4 g) : kR σ τ src tgt (cStart σ (nI src) tgt x g) (mStart τ x g) := by
  have hf : fr [5, 31, 32, 33, 34] σ (cStart σ (nI src) tgt x g) := ((((((fr.rf.u (by decide) _ _).u (by decide) _ _).u (by decide) _ _).u (by decide) _ _).u (by decide) _ _).u (by decide) _ _).u (by decide) _ _
  have hg' : fr [0, 26, 27, 28, 29] τ (mStart τ x g) := (((((fr.rf.u (by decide) _ _).u (by decide) _ _).u (by decide) _ _).u (by decide) _ _).u (by decide) _ _).u (by decide) _ _
  have e8 : mStart τ x g 0 8 = nI 1 := by
    show nI 0 + nI 1 = nI 1
    decide
  refine ⟨hf, hg', fun i hi => ?_, rfl, rfl, rfl, cStart_ok hZ.qT.1 ⟨src, hs, rfl⟩ hT hx hg, mStart_ok hZ.qT.2.1 hx hg, e8.symm, rfl, rfl, fun i hi => ?_, ?_⟩
  · have n8 : ¬ i = 8 := fun e => hi (by rw [e]; decide)
    have n9 : ¬ i = 9 := fun e => hi (by rw [e]; decide)
    have n10 : ¬ i = 10 := fun e => hi (by rw [e]; decide)
    unfold mStart mArrive
    rw [sU_eq, if_neg n8, sU_ne (k := 29) (j := 0) _ _ _ (by decide), sU_ne (k := 28) (j := 0) _ _ _ (by decide), sU_eq, if_neg n10, sU_eq, if_neg n9, sU_eq, if_neg n8]
  · rw [e8, nI_clamp (by decide)] at hi
    have : i = 0 := by omega
    subst this
    exact ⟨rfl, rfl⟩
  · have a : fr [5, 33, 34] σ (cStart σ (nI src) tgt x g) := ((((((fr.rf.u (by decide) _ _).u (by decide) _ _).u (by decide) _ _).u (by decide) _ _).u (by decide) _ _).u (by decide) _ _).u (by decide) _ _
    have b : fr [0, 28, 29] τ (mStart τ x g) := (((((fr.rf.u (by decide) _ _).u (by decide) _ _).u (by decide) _ _).u (by decide) _ _).u (by decide) _ _).u (by decide) _ _
    exact hZ.2.2.2.2.2.2.1.of a b (by decide) (by decide)
/-- a frame keeps the relation and reaches the same ends -/
theorem frame_rel {σ τ : jS} {src : Nat} {tgt x g : Int32} (hZ : zR σ τ) (hs : src < 7) (hT : okQ 7 tgt) (hx : okP 24 x) (hg : okQ 4 g) :
    zR (cCarry σ (nI src) tgt x g) (mFrame τ x g src tgt) ∧ cCarry σ (nI src) tgt x g 5 4 = mFrame τ x g src tgt 0 10 ∧ cCarry σ (nI src) tgt x g 11 = σ 11 := by
  have hk := kR.run hZ hs hT 61 0 _ _ rfl (kR.start hZ hs hT hx hg)
  have hIc := cCarry_inv hZ.qT.1 (f := nI src) ⟨src, hs, rfl⟩ hT hx hg
  have hJm := mFrame_inv hZ.qT.2.1 hx hg src tgt
  unfold cCarry at hIc ⊢
  unfold mFrame at hJm ⊢
  generalize cRun 0 61 (cStart σ (nI src) tgt x g) = s at hk hIc ⊢
  have h64 : mRun src tgt 0 (61 + 3) (mStart τ x g) = mRun src tgt 0 64 (mStart τ x g) := rfl
  rw [h64] at hk
  generalize mRun src tgt 0 64 (mStart τ x g) = t at hk hJm ⊢
  obtain ⟨hf, hg', h0, k5, k1, k2, hI, hJ, e0, e3, e4, ha, hE⟩ := hk
  have hf2 : fr [5, 31, 32, 33, 34] σ (cCount s) := hf.u (by decide) _ _
  have hg2 : fr [0, 26, 27, 28, 29] τ (mFin t) := hg'.u (by decide) _ _
  have m0 : ∀ i, i ∉ [8, 9, 10, 11] → mFin t 0 i = τ 0 i := fun i hi => by
    have : mFin t 0 i = if i = 11 then t 0 11 + t 0 9 else t 0 i := sU_eq t 0 11 _ i
    rw [this, if_neg (fun e => hi (by rw [e]; decide))]
    exact h0 i (fun e => hi (by
      rcases List.mem_cons.mp e with rfl | e
      · decide
      · rcases List.mem_cons.mp e with rfl | e
        · decide
        · rw [List.mem_singleton.mp e]; decide))
  refine ⟨⟨?_, ?_, hZ.2.2.1.of hf2 hg2 (by decide) (by decide), hZ.2.2.2.1.of hf2 hg2 (by decide) (by decide) (m0 5 (by decide)), hZ.2.2.2.2.1.of hf2 hg2 (by decide) (by decide), hZ.2.2.2.2.2.1.of hf2 hg2 (by decide) (by decide), hE.of (ks := [5]) (ls := [0]) (fr.rf.u (by decide) _ _) (fr.rf.u (by decide) _ _) (by decide) (by decide), hZ.2.2.2.2.2.2.2.of hg2 (by decide) (m0 4 (by decide))⟩, e4, hf2 11 (by decide)⟩
  · have hnb : mNb (mFin t) = mNb τ := by unfold mNb; rw [m0 4 (by decide)]
    rw [hnb]
    exact hZ.1.of hIc hJm (fun k hk => hf2 k (by revert k; decide)) (fun k hk => hg2 k (by revert k; decide)) (m0 1 (by decide)) (m0 3 (by decide)) (m0 4 (by decide))
  · have e55 : cCount s 5 5 = mFin t 0 11 := by
      show s 5 5 + s 5 3 = t 0 11 + t 0 9
      rw [k5, e3, h0 11 (by decide), hZ.2.1.2.1.2.2.2]
    unfold zS
    rw [e55, hf2 0 (by decide), hf2 1 (by decide), hf2 3 (by decide), m0 0 (by decide), m0 1 (by decide), m0 2 (by decide), m0 5 (by decide), m0 6 (by decide), m0 7 (by decide), m0 12 (by decide)]
    have q := hZ.2.1
    exact ⟨q.1, ⟨q.2.1.1, q.2.1.2.1, q.2.1.2.2.1, rfl⟩, q.2.2⟩
theorem zR.zero {σ τ : jS} (h : zR σ τ) (v : Int32) : zR (sU σ 5 5 v) (sU τ 0 11 v) := by
  have hf : fr [5] σ (sU σ 5 5 v) := fr.rf.u (by decide) _ _
  have hg : fr [0] τ (sU τ 0 11 v) := fr.rf.u (by decide) _ _
  refine ⟨h.1.of (h.qT.1.u (by decide)) (h.qT.2.1.u0 (by decide) (by decide) (by decide) (by decide)) (fun k hk => hf k (by revert k; decide)) (fun k hk => hg k (by revert k; decide)) rfl rfl rfl, ?_, h.2.2.1.of hf hg (by decide) (by decide), h.2.2.2.1.of hf hg (by decide) (by decide) rfl, h.2.2.2.2.1.of hf hg (by decide) (by decide), h.2.2.2.2.2.1.of hf hg (by decide) (by decide), h.2.2.2.2.2.2.1.of hf hg (by decide) (by decide), h.2.2.2.2.2.2.2.of hg (by decide) rfl⟩
  have q := h.2.1
  exact ⟨q.1, ⟨q.2.1.1, q.2.1.2.1, q.2.1.2.2.1, rfl⟩, q.2.2⟩
theorem zR.ans {σ τ : jS} (h : zR σ τ) (v : Int32) : zR (sU σ 0 1 v) (sU τ 0 12 v) := by
  have hf : fr [0] σ (sU σ 0 1 v) := fr.rf.u (by decide) _ _
  have hg : fr [0] τ (sU τ 0 12 v) := fr.rf.u (by decide) _ _
  refine ⟨h.1.of (h.qT.1.u (by decide)) (h.qT.2.1.u0 (by decide) (by decide) (by decide) (by decide)) (fun k hk => hf k (by revert k; decide)) (fun k hk => hg k (by revert k; decide)) rfl rfl rfl, ?_, h.2.2.1.of hf hg (by decide) (by decide), h.2.2.2.1.of hf hg (by decide) (by decide) rfl, h.2.2.2.2.1.of hf hg (by decide) (by decide), h.2.2.2.2.2.1.of hf hg (by decide) (by decide), h.2.2.2.2.2.2.1.of hf hg (by decide) (by decide), h.2.2.2.2.2.2.2.of hg (by decide) rfl⟩
  have q := h.2.1
  exact ⟨q.1, ⟨q.2.1.1, q.2.1.2.1, rfl, q.2.1.2.2.2⟩, q.2.2⟩
theorem hasR_eq {σ τ : jS} (h : zR σ τ) : cHasRouter σ = decide (0 ≤ τ 0 7) := by
  unfold cHasRouter
  rw [h.2.1.1.2.2]
  rcases h.qT.2.1.rt with e | ⟨k, hk, e⟩
  · rw [e]; decide
  · rw [e]
    have h1 := neg1_ne k (by omega)
    have h2 := nI_pos' (n := k) (by omega)
    simp [h1, h2]
theorem send_eq {σ τ : jS} (h : zR σ τ) (x y : Int32) : cSendB σ x y = mSendB τ x y := by
  unfold cSendB mSendB cIsDest
  rw [host_eq h, host_eq h, hasR_eq h, Bool.or_comm (decide (y = -1)) (mIsHost τ y)]
theorem send_rel {σ τ : jS} (h : zR σ τ) {x y : Int32} (hb : mSendB τ x y = true) :
    cCarry (sU σ 5 5 (nI 0)) x y (σ 10 x.toNatClampNeg) (-1) 5 4 = mFrame (sU τ 0 11 (nI 0)) (τ 14 x.toNatClampNeg) (-1) x.toNatClampNeg y 0 10 ∧
    zR (cCarry (sU σ 5 5 (nI 0)) x y (σ 10 x.toNatClampNeg) (-1)) (mFrame (sU τ 0 11 (nI 0)) (τ 14 x.toNatClampNeg) (-1) x.toNatClampNeg y) := by
  have hd := mDest_ok h.qT.2.1 hb
  unfold mSendB at hb
  rw [Bool.and_eq_true] at hb
  obtain ⟨k, rfl, hk⟩ := mHost_at h.qT.2.1 hb.1
  rw [nI_clamp (by omega), (h.2.2.2.2.1 k hk).1]
  have := frame_rel (h.zero (nI 0)) (src := k) (by omega) hd (h.qT.2.1.at_ hk) (Or.inl rfl)
  exact ⟨this.2.1, this.1⟩
