/-! the other end of a wire; the passing of notices -/
theorem other_at {σ τ : jS} {p : Nat} (hJ : mInv τ) (hW : zW σ τ) (hB : zB τ) (hp : p < 24) (h5 : τ 5 p = nI 1) : ∃ P w, P < 4 * mNb τ ∧ P < 24 ∧ mOther τ p = nI P ∧ τ 6 p = nI w ∧ w < 10 ∧ τ 5 P = nI 1 ∧ τ 6 P = nI w := by
  have hnw := mNw_le hJ
  obtain ⟨w1, w2, w3⟩ := hW
  obtain ⟨w, hw, e6, hor⟩ := w3 p hp h5
  obtain ⟨P, hP, eP⟩ := hJ.eP (w := w) (by omega)
  obtain ⟨Q, hQ, eQ⟩ := hJ.eQ (w := w) (by omega)
  obtain ⟨-, a, b, d⟩ := w2 w hw
  unfold zEnd at a b
  rw [eP, nI_clamp (by omega)] at a
  rw [eQ, nI_clamp (by omega)] at b
  have hlt : ∀ x, x < 24 → τ 5 x = nI 1 → x < 4 * mNb τ := fun x hx h => by
    refine Nat.lt_of_not_le (fun hle => ?_)
    have := (hB.2.2 x hle hx).1
    rw [h] at this
    exact absurd this (by decide)
  unfold mOther
  rw [e6, nI_clamp (by omega)]
  by_cases e : τ 10 w = nI p
  · rw [if_neg (fun q => q e)]
    exact ⟨Q, w, hlt Q hQ b.1, hQ, eQ, rfl, by omega, b.1, b.2⟩
  · rw [if_pos e]
    exact ⟨P, w, hlt P hP a.1, hP, eP, rfl, by omega, a.1, a.2⟩
theorem far_at {σ τ : jS} {p : Nat} (hP : qP σ τ p) (h5 : τ 5 p = nI 1) : σ 12 p = τ 6 p ∧ σ 13 p = mOther τ p ∧ σ 9 (τ 6 p).toNatClampNeg = τ 13 (τ 6 p).toNatClampNeg := by
  rcases hP with q | q | q | q
  · exact absurd (h5.symm.trans q.1) (by decide)
  · exact ⟨q.2.1, q.2.2.1, q.2.2.2.2.1⟩
  · exact absurd (h5.symm.trans q.1) (by decide)
  · exact absurd (h5.symm.trans q.1) (by decide)
theorem passA_fr (σ : jS) (n : Nat) : fr [29, 30] σ (forN cPassA σ n) := fr.n (fun i σ => (fr.rf.u (by decide) _ _).u (by decide) _ _) σ n
theorem pass_rel {σ τ : jS} (hT : qT σ τ) (hR : ∀ b, b < mNb τ → qR σ τ b) (hN : qN σ τ) (hW : zW σ τ) (hB : zB τ) (h30 : σ 3 0 = τ 0 0) (h31 : σ 3 1 = τ 0 1) (h32 : σ 3 2 = τ 0 3) (h28 : ∀ b, b < 6 → σ 28 b = τ 2 b) :
    qN (cPass σ) (mPass τ) ∧ (∀ b, b < 6 → okP 2 (mPass τ 3 b)) ∧ (∀ b, mNb τ ≤ b → b < 6 → mPass τ 3 b = 0) ∧ (∀ b, b < 6 → cPass σ 28 b = mPass τ 2 b) := by
  have hnb := hT.2.1.nbl.1
  have hN' := nb_eq hT
  have hfa := passA_fr σ (mNb τ)
  have hgc := clr_fr4 τ 6
  have a29 := passA_29 σ (mNb τ)
  have a30 := passA_30 σ (mNb τ)
  have c4 := clr_4 τ 6
  unfold cPass mPass
  rw [hN']
  generalize forN cPassA σ (mNb τ) = s at hfa a29 a30 ⊢
  generalize forN mClr τ 6 = t at hgc c4 ⊢
  have hnbt : mNb t = mNb τ := by unfold mNb; rw [hgc 0 (by decide)]
  have hs : mSame τ t := mSame.of_fr hgc (by decide)
  have hH : pH s t := by
    refine ⟨?_, ?_, ?_, fun b hb => ?_, fun b hb => ?_⟩
    · rw [hfa 3 (by decide), hgc 0 (by decide)]; exact h30
    · rw [hfa 3 (by decide), hgc 0 (by decide)]; exact h31
    · rw [hfa 3 (by decide), hgc 0 (by decide)]; exact h32
    · rw [hnbt] at hb
      rw [a30 b hb, hN b (by omega), hgc 3 (by decide)]
      exact nar2 (hB.1 b (by omega))
    · rw [hnbt] at hb
      rw [mPort_congr hs, hfa 24 (by decide), hnbt]
      rcases (hR b hb).2.2 with ⟨e1, e2⟩ | ⟨k, hk, e1, e2, e4⟩
      · exact Or.inl ⟨e1, e2⟩
      · have hp : 4 * b + k < 24 := by omega
        have h5 := ((hT.2.2.2.2.2 _ hp).2.2.2.2.2.2.2.2 e4).1
        obtain ⟨P, w, hP, -, eo, -⟩ := other_at hT.2.1 hW hB hp h5
        refine Or.inr ⟨k, P, hk, e1, e2, ?_, ?_, hP⟩
        · rw [hfa 13 (by decide), (far_at (hT.2.2.2.2.1 _ hp) h5).2.1, eo]
        · unfold mOther at eo ⊢
          rw [hgc 6 (by decide), hgc 10 (by decide), hgc 11 (by decide)]; exact eo
  have h0 : pN s t s t (mNb t) := by
    refine ⟨fr.rf, fr.rf, fun b hb => ?_, fun b hb hb6 => ?_, fun b hb => ?_⟩
    · rw [a29, c4, if_pos hb]
      by_cases e : b < mNb τ
      · rw [if_pos e]; exact ⟨rfl, 0, by decide, rfl⟩
      · rw [if_neg e, hN b hb, hB.2.1 b (by omega) hb]; exact ⟨by decide, 0, by decide, rfl⟩
    · rw [c4, if_pos hb6]; decide
    · rw [hfa 28 (by decide), hgc 2 (by decide)]; exact h28 b hb
  have hL := passN_rel (by rw [hnbt]; exact hnb) hH h0 (mNb τ) (by rw [hnbt]; exact Nat.le_refl _)
  generalize forN cPassB s (mNb τ) = s' at hL ⊢
  generalize forN mPassB t (mNb τ) = t' at hL ⊢
  obtain ⟨hf, hg, l1, l2, l3⟩ := hL
  have e3 : ∀ b, b < 6 → forN mCpy t' 6 3 b = t' 4 b := fun b hb => by
    rw [cpy_3 t' 6 b hb]
    exact nar2 (l1 b hb).2
  refine ⟨fun b hb => ?_, fun b hb => ?_, fun b hb hb6 => ?_, fun b hb => ?_⟩
  · rw [e3 b hb]; exact (l1 b hb).1
  · rw [e3 b hb]; exact (l1 b hb).2
  · rw [e3 b hb6]; exact l2 b (by rw [hnbt]; exact hb) hb6
  · rw [cpy_fr3 t' 6 2 (by decide)]; exact l3 b hb
/-! what the reference reads stays when only the rows from 24 on change -/
def loS (τ t : jS) : Prop := (∀ k, k ∉ [16, 17, 18, 19, 20, 21, 22] → t k = τ k) ∧ (∀ k j, j < 24 → t k j = τ k j)
theorem loS.u {τ t : jS} (h : loS τ t) {k i : Nat} {v : Int32} (hk : k ∈ [16, 17, 18, 19, 20, 21, 22]) (hi : 24 ≤ i) : loS τ (sU t k i v) := by
  refine ⟨fun j hj => ?_, fun q j hj => ?_⟩
  · rw [sU_ne (k := k) (j := j) _ _ _ (fun e => hj (by rw [e]; exact hk))]; exact h.1 j hj
  · by_cases e : q = k
    · subst e
      rw [sU_eq, if_neg (by omega)]; exact h.2 q j hj
    · rw [sU_ne (k := k) (j := q) _ _ _ e]; exact h.2 q j hj
theorem lo_port {τ t : jS} {b : Nat} (h : loS τ t) (hb : b < 6) : mPort t b = mPort τ b := by
  refine congrArg Prod.fst (mPortN_keep (by rw [h.1 1 (by decide)]) (fun n hn => ⟨h.2 16 _ (by omega), h.2 17 _ (by omega), fun _ => ?_⟩) 4 (Nat.le_refl _))
  unfold mOffer
  rw [h.2 17 _ (by omega), h.2 18 _ (by omega), h.2 19 _ (by omega), h.2 20 _ (by omega), h.1 12 (by decide), h.1 6 (by decide)]
theorem lo_id {τ t : jS} (h : loS τ t) (b : Nat) : mId t b = mId τ b := by
  unfold mId
  rw [h.1 1 (by decide)]
theorem lo_root {τ t : jS} {b : Nat} (h : loS τ t) (hb : b < 6) : mRootOf t b = mRootOf τ b := by
  unfold mRootOf
  rw [lo_port h hb, lo_id h]
  by_cases e : 0 ≤ mPort τ b
  · rw [if_pos e, if_pos e, h.2 17 _ (mPort_cl e hb)]
  · rw [if_neg e, if_neg e]
theorem lo_dist {τ t : jS} {b : Nat} (h : loS τ t) (hb : b < 6) : mDist t b = mDist τ b := by
  unfold mDist
  rw [lo_port h hb]
  by_cases e : 0 ≤ mPort τ b
  · rw [if_pos e, if_pos e, h.2 18 _ (mPort_cl e hb), h.1 12 (by decide), h.1 6 (by decide)]
  · rw [if_neg e, if_neg e]
theorem lo_marked {τ t : jS} {b : Nat} (h : loS τ t) (hb : b < 6) : mMarked t b = mMarked τ b := by
  unfold mMarked
  rw [lo_port h hb]
  by_cases e : 0 ≤ mPort τ b
  · rw [if_pos e, if_pos e, h.2 22 _ (mPort_cl e hb)]
  · rw [if_neg e, if_neg e, h.1 2 (by decide), h.1 0 (by decide)]
theorem lo_role {τ t : jS} {p : Nat} (h : loS τ t) (hp : p < 24) : mRole t p = mRole τ p := by
  have hb : p / 4 < 6 := by omega
  unfold mRole mIsUp mKeyM mKeyO
  rw [lo_port h hb, lo_root h hb, lo_dist h hb, lo_id h, h.2 16 p hp, h.2 17 p hp, h.2 18 p hp, h.2 19 p hp, h.2 20 p hp, h.1 5 (by decide), h.1 6 (by decide), h.1 13 (by decide)]
theorem mS2_lo {τ t : jS} {b to : Nat} (h : loS τ t) (hb : b < 6) : mS2 t b to = sU t 17 to (mRootOf τ b) := by unfold mS2; rw [lo_root h hb]
theorem mS3_lo {τ t : jS} {b to : Nat} (h : loS τ t) (hb : b < 6) : mS3 t b to = sU t 18 to (mDist τ b) := by unfold mS3; rw [lo_dist h hb]
theorem mS4_lo {τ t : jS} {b to : Nat} (h : loS τ t) : mS4 t b to = sU t 19 to (mId τ b) := by unfold mS4; rw [lo_id h]
theorem mS6_lo {τ t : jS} {b to : Nat} (h : loS τ t) (hb : b < 6) : mS6 t b to (mPort τ b) = sU t 21 to (if 0 ≤ mPort τ b then τ 21 (nI (4 * b) + mPort τ b).toNatClampNeg else nI 0) := by
  unfold mS6
  by_cases e : 0 ≤ mPort τ b
  · rw [if_pos e, if_pos e, h.2 21 _ (mPort_cl e hb)]
  · rw [if_neg e, if_neg e]
theorem mS7_lo {τ t : jS} {b to : Nat} (h : loS τ t) (hb : b < 6) : mS7 t b to = sU t 22 to (bI (mMarked τ b)) := by unfold mS7; rw [lo_marked h hb]
theorem sendTo_eq {τ t : jS} {p to : Nat} (h : loS τ t) (hp : p < 24) (ht : 24 ≤ to) : mSendTo t p to (mPort t (p / 4)) =
    sU (sU (sU (sU (sU (sU (sU t 16 to (nI 1)) 17 to (mRootOf τ (p / 4))) 18 to (mDist τ (p / 4))) 19 to (mId τ (p / 4))) 20 to (nI (p % 4))) 21 to (if 0 ≤ mPort τ (p / 4) then τ 21 (nI (4 * (p / 4)) + mPort τ (p / 4)).toNatClampNeg else nI 0)) 22 to (bI (mMarked τ (p / 4))) := by
  have hb : p / 4 < 6 := by omega
  have h1 : loS τ (mS1 t to) := h.u (by decide) ht
  have h2 := h1.u (k := 17) (v := mRootOf τ (p / 4)) (by decide) ht
  have h3 := h2.u (k := 18) (v := mDist τ (p / 4)) (by decide) ht
  have h4 := h3.u (k := 19) (v := mId τ (p / 4)) (by decide) ht
  have h5 := h4.u (k := 20) (v := nI (p % 4)) (by decide) ht
  have h6 := h5.u (k := 21) (v := if 0 ≤ mPort τ (p / 4) then τ 21 (nI (4 * (p / 4)) + mPort τ (p / 4)).toNatClampNeg else nI 0) (by decide) ht
  unfold mSendTo
  rw [mS2_lo h1 hb, mS3_lo h2 hb, mS4_lo h3, mS5, lo_port h hb, mS6_lo h5 hb, mS7_lo h6 hb, mS1]
