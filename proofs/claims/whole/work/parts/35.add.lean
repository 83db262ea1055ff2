/-! what keeps a role; the settling after something was added -/
theorem mPortN_keep {τ τ' : jS} {b : Nat} (h1 : τ' 1 b = τ 1 b) (h : ∀ n, n < 4 → τ' 16 (4 * b + n) = τ 16 (4 * b + n) ∧ τ' 17 (4 * b + n) = τ 17 (4 * b + n) ∧ (¬ τ 16 (4 * b + n) = 0 → mOffer τ' (4 * b + n) = mOffer τ (4 * b + n))) : ∀ n, n ≤ 4 → mPortN τ' b n = mPortN τ b n := by
  intro n
  induction n with
  | zero => exact fun _ => rfl
  | succ n ih =>
    intro hn
    obtain ⟨e16, e17, eo⟩ := h n (by omega)
    unfold mPortN mId
    rw [ih (by omega), h1, e16, e17]
    by_cases h0 : τ 16 (4 * b + n) = 0
    · rw [if_pos h0, if_pos h0]
    · rw [if_neg h0, if_neg h0, eo h0]
theorem role_keep {σ τ τ' : jS} {p : Nat} (hT : qT σ τ) (hR : qR σ τ (p / 4)) (hp : p < 4 * mNb τ) (h1 : τ' 1 (p / 4) = τ 1 (p / 4)) (hk : ∀ k ∈ [16, 17, 18, 19, 20], τ' k = τ k)
    (h12 : ∀ x, x < 24 → ¬ τ 16 x = 0 → τ' 6 x = τ 6 x ∧ τ' 12 (τ 6 x).toNatClampNeg = τ 12 (τ 6 x).toNatClampNeg) (hup : mIsUp τ' p = mIsUp τ p) : mRole τ' p = mRole τ p := by
  have hnb := hT.2.1.nbl.1
  have e16 := hk 16 (by decide); have e17 := hk 17 (by decide); have e18 := hk 18 (by decide); have e19 := hk 19 (by decide); have e20 := hk 20 (by decide)
  have hport : mPort τ' (p / 4) = mPort τ (p / 4) := by
    refine congrArg Prod.fst (mPortN_keep h1 (fun n hn => ⟨by rw [e16], by rw [e17], fun hh => ?_⟩) 4 (Nat.le_refl _))
    have a := h12 _ (by omega) hh
    unfold mOffer
    rw [a.1, a.2, e17, e18, e19, e20]
  have hid : mId τ' (p / 4) = mId τ (p / 4) := by unfold mId; rw [h1]
  have hroot : mRootOf τ' (p / 4) = mRootOf τ (p / 4) := by unfold mRootOf; rw [hport, hid, e17]
  have hdist : mDist τ' (p / 4) = mDist τ (p / 4) := by
    unfold mDist
    rw [hport, e18]
    rcases hR.2.2 with ⟨e1, -⟩ | ⟨k, hk4, e1, -, e4⟩
    · have hneg : ¬ (0 : Int32) ≤ mPort τ (p / 4) := by rw [e1]; decide
      rw [if_neg hneg, if_neg hneg]
    · obtain ⟨hge, hix⟩ := port_at e1 (by omega) hk4
      have a := h12 _ (by omega) e4
      rw [if_pos hge, if_pos hge, hix, a.1, a.2]
  unfold mRole mKeyM mKeyO
  rw [hup, hport, hroot, hdist, hid, e16, e17, e18, e19, e20]
theorem mSt_keep {τ τ' : jS} {n : Nat} (hr : mRole τ' n = mRole τ n) (h23 : τ' 23 n = bI (cActive (mRole τ n))) (h24 : τ' 24 n = τ 24 n) (h1 : τ' 0 1 = τ 0 1) (h3 : τ' 0 3 = τ 0 3) : mSt τ' n = mState τ n := by
  have e : m24 τ' n = τ 24 n := by
    have hnow : mNow τ' n = cActive (mRole τ n) := by
      show cActive (mRole τ' n) = _
      rw [hr]
    unfold m24
    rw [hnow, h23, h24]
    cases cActive (mRole τ n) <;> simp [bI]
  unfold mSt mState
  rw [hr, e, h1, h3]
theorem told_self (τ : jS) (n : Nat) : mTold (mSt τ n) (mSt τ n) = false := by
  rcases st_cases τ n with e | e | e | e <;> rw [e] <;> decide
theorem up_no {τ : jS} {p : Nat} (h : τ 5 p = nI 0) : mIsUp τ p = false := by
  unfold mIsUp
  rw [h]
  rw [show decide (nI 1 < nI 0) = false by decide, show decide (nI 0 = nI 1) = false by decide]
  rfl
theorem role_no {τ : jS} {p : Nat} (h : τ 5 p = nI 0) : mRole τ p = nI 0 := by
  unfold mRole
  rw [up_no h, if_neg (by decide)]
theorem st_no {τ : jS} {p : Nat} (h : τ 5 p = nI 0) : mState τ p = nI 0 := by
  unfold mState
  rw [role_no h, if_pos (by decide)]
/-- an empty place's row -/
theorem row_no {σ τ : jS} {p : Nat} (h : zR σ τ) (hp : p < 24) (h5 : τ 5 p = nI 0) : τ 23 p = 0 ∧ τ 25 p = 0 := by
  by_cases hb : p < 4 * mNb τ
  · have hL := h.1.2.2.2.2.2.2 p hb
    have hS := h.1.2.2.1 p hp
    rw [role_no h5, st_no h5] at hL
    refine ⟨?_, ?_⟩
    · rw [hS.1, hL.1]; decide
    · rw [← hS.2.2, hL.2]; decide
  · exact (h.2.2.2.2.2.2.2.2.2 p (by omega) hp).2
theorem qP.at {σ σ' τ τ' : jS} {p : Nat} (h : qP σ τ p) (e5 : τ' 5 p = τ 5 p) (e6 : τ' 6 p = τ 6 p) (e12 : σ' 12 p = σ 12 p) (e13 : σ' 13 p = σ 13 p) (e14 : σ' 14 p = σ 14 p)
    (hw : τ 5 p = nI 1 → σ' 9 (τ 6 p).toNatClampNeg = σ 9 (τ 6 p).toNatClampNeg ∧ σ' 8 (τ 6 p).toNatClampNeg = σ 8 (τ 6 p).toNatClampNeg ∧ τ' 13 (τ 6 p).toNatClampNeg = τ 13 (τ 6 p).toNatClampNeg ∧ τ' 12 (τ 6 p).toNatClampNeg = τ 12 (τ 6 p).toNatClampNeg ∧ τ' 10 (τ 6 p).toNatClampNeg = τ 10 (τ 6 p).toNatClampNeg ∧ τ' 11 (τ 6 p).toNatClampNeg = τ 11 (τ 6 p).toNatClampNeg) : qP σ' τ' p := by
  unfold qP mOther at h ⊢
  rw [e5, e6, e12, e13, e14]
  rcases h with q | q | q | q
  · exact Or.inl q
  · obtain ⟨a, b, c, d, e, f⟩ := hw q.1
    rw [a, b, c, d, e, f]
    exact Or.inr (Or.inl q)
  · exact Or.inr (Or.inr (Or.inl q))
  · exact Or.inr (Or.inr (Or.inr q))
theorem qM.at {σ σ' τ τ' : jS} {p : Nat} (h : qM σ τ p) (e18 : σ' 18 = σ 18) (e19 : σ' 19 = σ 19) (hk : ∀ k ∈ [16, 17, 18, 19, 20, 21, 22], τ' k = τ k)
    (hw : ¬ τ 16 p = 0 → τ' 5 p = τ 5 p ∧ τ' 6 p = τ 6 p ∧ τ' 13 (τ 6 p).toNatClampNeg = τ 13 (τ 6 p).toNatClampNeg) : qM σ' τ' p := by
  unfold qM at h ⊢
  rw [e18, e19, hk 16 (by decide), hk 17 (by decide), hk 18 (by decide), hk 19 (by decide), hk 20 (by decide), hk 21 (by decide), hk 22 (by decide)]
  refine ⟨h.1, h.2.1, h.2.2.1, h.2.2.2.1, h.2.2.2.2.1, h.2.2.2.2.2.1, h.2.2.2.2.2.2.1, h.2.2.2.2.2.2.2.1, fun hh => ?_⟩
  obtain ⟨a, b, c⟩ := hw hh
  rw [a, b, c]
  exact h.2.2.2.2.2.2.2.2 hh
theorem add_rel {σ τ σ' τ' : jS} (h : zR σ τ) (hI : cInv σ') (hJ : mInv τ') (hnb : σ' 1 0 = τ' 0 4) (hid : ∀ b, b < mNb τ' → σ' 6 b = mId τ' b ∧ okP 8 (τ' 1 b)) (hP : ∀ p, p < 24 → qP σ' τ' p)
    (hc : ∀ k ∈ [3, 18, 19, 25, 26, 27, 29], σ' k = σ k) (hm : ∀ k ∈ [3, 16, 17, 18, 19, 20, 21, 22, 23, 24, 25], τ' k = τ k) (h01 : τ' 0 1 = τ 0 1) (h03 : τ' 0 3 = τ 0 3)
    (h1 : ∀ b, b < mNb τ → τ' 1 b = τ 1 b) (h5 : ∀ x, x < 24 → ¬ τ 5 x = nI 0 → τ' 5 x = τ 5 x ∧ τ' 6 x = τ 6 x)
    (h12 : ∀ x, x < 24 → τ 5 x = nI 1 → τ' 12 (τ 6 x).toNatClampNeg = τ 12 (τ 6 x).toNatClampNeg ∧ τ' 13 (τ 6 x).toNatClampNeg = τ 13 (τ 6 x).toNatClampNeg) :
    qL (cSettle σ') (mLook τ' false) (4 * mNb τ') := by
  obtain ⟨hT, hR, hS, hN, ht, hd, hpre⟩ := h.1
  have h10 : ¬ nI 1 = nI 0 := by decide
  have hM : ∀ p, p < 24 → qM σ' τ' p := fun p hp => by
    refine (hT.2.2.2.2.2 p hp).at (hc 18 (by decide)) (hc 19 (by decide)) (fun k hk => hm k (by revert k; decide)) (fun hh => ?_)
    have h51 := ((hT.2.2.2.2.2 p hp).2.2.2.2.2.2.2.2 hh).1
    have a := h5 p hp (by rw [h51]; exact h10)
    exact ⟨a.1, a.2, (h12 p hp h51).2⟩
  have hT' : qT σ' τ' := ⟨hI, hJ, hnb, hid, hP, hM⟩
  have hnb7 := hJ.nbl.1
  refine settle_rel false hT' (fun p hp => ?_) (fun b hb => ?_) ?_ ?_ (fun _ n hn τ'' hs h0 hrow => ?_)
  · have := hS p hp
    unfold qS at this ⊢
    rw [hc 25 (by decide), hc 26 (by decide), hc 27 (by decide), hm 23 (by decide), hm 24 (by decide), hm 25 (by decide)]; exact this
  · rw [hc 29 (by decide), hm 3 (by decide)]; exact hN b hb
  · rw [hc 3 (by decide), h03]; exact ht
  · rw [hc 3 (by decide), h01]; exact hd
  · have hn24 : n < 24 := by omega
    obtain ⟨r23, r24, r25⟩ := hrow n (Nat.le_refl _)
    rw [hm 23 (by decide)] at r23
    rw [hm 24 (by decide)] at r24
    rw [hm 25 (by decide)] at r25
    have hrole'' : mRole τ'' n = mRole τ' n := mRole_congr hs n
    by_cases h5n : τ 5 n = nI 0
    · obtain ⟨z1, z2⟩ := row_no h hn24 h5n
      obtain ⟨d, hd0, hd5, ed⟩ := h.2.1.2.2.2.1
      have e01 : τ'' 0 1 = nI d := by rw [h0, h01, ed]
      have hst : mSt τ'' n = nI 0 ∨ mSt τ'' n = nI 1 := by
        have hact : ∀ r, mRole τ'' n = r → (r = nI 1 ∨ r = nI 2) → mSt τ'' n = nI 1 := fun r er hr => by
          have hnow : mNow τ'' n = true := by
            show cActive (mRole τ'' n) = true
            rw [er]
            rcases hr with rfl | rfl <;> decide
          have e24 : m24 τ'' n = τ'' 0 3 := by
            unfold m24
            rw [hnow, if_pos rfl, r23, z1, if_neg (fun q => q rfl)]
          have hz : ¬ nI d ≤ τ'' 0 3 - τ'' 0 3 := by
            rw [Int32.sub_self, show (0 : Int32) = nI 0 from by decide, nI_leI (by omega) (by decide)]
            omega
          unfold mSt
          rw [er, e24, e01, if_neg hz]
          rcases hr with rfl | rfl
          · rw [if_neg (by decide), if_pos (by decide)]
          · rw [if_neg (by decide), if_pos (by decide)]
        rcases role_cases τ'' n with e | e | e | e
        · left; unfold mSt; rw [e, if_pos (by decide)]
        · right; exact hact _ e (Or.inl rfl)
        · right; exact hact _ e (Or.inr rfl)
        · left; unfold mSt; rw [e, if_neg (by decide), if_neg (fun q => q rfl)]
      rw [r25, z2]
      rcases hst with e | e <;> rw [e] <;> decide
    · have hlt : n < 4 * mNb τ := by
        refine Nat.lt_of_not_le (fun hle => h5n (h.2.2.2.2.2.2.2.2.2 n hle hn24).1)
      have a := h5 n hn24 h5n
      have hup : mIsUp τ' n = mIsUp τ n := by
        unfold mIsUp
        rw [a.1, a.2]
        by_cases h51 : τ 5 n = nI 1
        · rw [(h12 n hn24 h51).2]
        · rw [show decide (τ 5 n = nI 1) = false from decide_eq_false h51, Bool.false_and, Bool.false_and]
      have hr : mRole τ' n = mRole τ n := role_keep hT (hR (n / 4) (by omega)) hlt (h1 _ (by omega)) (fun k hk => hm k (by revert k; decide)) (fun x hx hh => by
        have h51 := ((hT.2.2.2.2.2 x hx).2.2.2.2.2.2.2.2 hh).1
        exact ⟨(h5 x hx (by rw [h51]; exact h10)).2, (h12 x hx h51).1⟩) hup
      have hL := hpre n hlt
      have hSn := hS n hn24
      have e : mSt τ'' n = mState τ n := mSt_keep (hrole''.trans hr) (by rw [r23, hSn.1, hL.1]) r24 (by rw [h0, h01]) (by rw [h0, h03])
      have e2 : τ'' 25 n = mSt τ'' n := by rw [r25, ← hSn.2.2, hL.2, e]
      rw [e2]
      exact told_self τ'' n
/-! the groups of the relation under frames -/
theorem zU.of {ks ls : List Nat} {σ σ' τ τ' : jS} (h : zU σ τ) (hf : fr ks σ σ') (hg : fr ls τ τ') (hk : ∀ k ∈ [21, 28], k ∉ ks) (hl : ∀ k ∈ [2], k ∉ ls) : zU σ' τ' := by
  unfold zU at h ⊢
  rw [hf 21 (hk _ (by decide)), hf 28 (hk _ (by decide)), hg 2 (hl _ (by decide))]; exact h
theorem zW.of {ks ls : List Nat} {σ σ' τ τ' : jS} (h : zW σ τ) (hf : fr ks σ σ') (hg : fr ls τ τ') (hk : ∀ k ∈ [7, 9], k ∉ ks) (hl : ∀ k ∈ [5, 6, 10, 11, 13], k ∉ ls) (h5 : τ' 0 5 = τ 0 5) : zW σ' τ' := by
  unfold zW zEnd mNw at h ⊢
  rw [hf 7 (hk _ (by decide)), hf 9 (hk _ (by decide)), hg 5 (hl _ (by decide)), hg 6 (hl _ (by decide)), hg 10 (hl _ (by decide)), hg 11 (hl _ (by decide)), hg 13 (hl _ (by decide)), h5]; exact h
theorem zH.of {ks ls : List Nat} {σ σ' τ τ' : jS} (h : zH σ τ) (hf : fr ks σ σ') (hg : fr ls τ τ') (hk : ∀ k ∈ [10, 11], k ∉ ks) (hl : ∀ k ∈ [14, 15], k ∉ ls) : zH σ' τ' := by
  unfold zH at h ⊢
  rw [hf 10 (hk _ (by decide)), hf 11 (hk _ (by decide)), hg 14 (hl _ (by decide)), hg 15 (hl _ (by decide))]; exact h
theorem zV.of {ks ls : List Nat} {σ σ' τ τ' : jS} (h : zV σ τ) (hf : fr ks σ σ') (hg : fr ls τ τ') (hk : ∀ k ∈ [15, 16, 17], k ∉ ks) (hl : ∀ k ∈ [7, 8, 9], k ∉ ls) : zV σ' τ' := by
  unfold zV at h ⊢
  rw [hf 15 (hk _ (by decide)), hf 16 (hk _ (by decide)), hf 17 (hk _ (by decide)), hg 7 (hl _ (by decide)), hg 8 (hl _ (by decide)), hg 9 (hl _ (by decide))]; exact h
theorem zE.of {ks ls : List Nat} {σ σ' τ τ' : jS} (h : zE σ τ) (hf : fr ks σ σ') (hg : fr ls τ τ') (hk : ∀ k ∈ [31, 32], k ∉ ks) (hl : ∀ k ∈ [26, 27], k ∉ ls) : zE σ' τ' := by
  unfold zE at h ⊢
  rw [hf 31 (hk _ (by decide)), hf 32 (hk _ (by decide)), hg 26 (hl _ (by decide)), hg 27 (hl _ (by decide))]; exact h
