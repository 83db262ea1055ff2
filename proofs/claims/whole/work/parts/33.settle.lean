/-! settle and look, place by place -/
def qN (σ τ : jS) : Prop := ∀ b, b < 6 → σ 29 b = τ 3 b
def qL (σ τ : jS) (n : Nat) : Prop :=
  qT σ τ ∧ (∀ b, b < mNb τ → qR σ τ b) ∧ (∀ p, p < 24 → qS σ τ p) ∧ qN σ τ ∧ σ 3 2 = τ 0 3 ∧ σ 3 1 = τ 0 1 ∧ ∀ p, p < n → σ 25 p = mRole τ p ∧ σ 27 p = mState τ p
theorem qT.of_frM {ks : List Nat} {σ τ τ' : jS} (h : qT σ τ) (hJ : mInv τ') (hf : fr ks τ τ') (hk : ∀ k ∈ [0, 1, 5, 6, 10, 11, 12, 13, 16, 17, 18, 19, 20, 21, 22], k ∉ ks) : qT σ τ' := by
  have e : ∀ k ∈ [0, 1, 5, 6, 10, 11, 12, 13, 16, 17, 18, 19, 20, 21, 22], τ' k = τ k := fun k hm => hf k (hk k hm)
  have e0 := e 0 (by decide); have e1 := e 1 (by decide); have e5 := e 5 (by decide); have e6 := e 6 (by decide); have e10 := e 10 (by decide); have e11 := e 11 (by decide)
  have e12 := e 12 (by decide); have e13 := e 13 (by decide); have e16 := e 16 (by decide); have e17 := e 17 (by decide); have e18 := e 18 (by decide); have e19 := e 19 (by decide)
  have e20 := e 20 (by decide); have e21 := e 21 (by decide); have e22 := e 22 (by decide)
  unfold qT qP qM mNb mId mOther at h ⊢
  rw [e0, e1, e5, e6, e10, e11, e12, e13, e16, e17, e18, e19, e20, e21, e22]
  exact ⟨h.1, hJ, h.2.2⟩
theorem qR.of_frM {ks : List Nat} {σ τ τ' : jS} {b : Nat} (h : qR σ τ b) (hf : fr ks τ τ') (hk : ∀ k ∈ mKs, k ∉ ks) : qR σ τ' b := by
  have hs : mSame τ τ' := mSame.of_fr hf hk
  unfold qR at h ⊢
  rw [mRootOf_congr hs, mDist_congr hs, mPort_congr hs, hs 16 (by decide)]
  exact h
theorem qR.of_fr {ks : List Nat} {σ σ' τ : jS} {b : Nat} (h : qR σ τ b) (hf : fr ks σ σ') (hk : ∀ k ∈ [22, 23, 24], k ∉ ks) : qR σ' τ b := by
  unfold qR at h ⊢
  rw [hf 22 (hk 22 (by decide)), hf 23 (hk 23 (by decide)), hf 24 (hk 24 (by decide))]
  exact h
theorem mState_eq (τ : jS) (p : Nat) {τ' : jS} (hs : mSame τ τ') (h0 : τ' 0 = τ 0) (h24 : τ' 24 p = m24 τ p) : mState τ' p = mSt τ p := by
  unfold mState mSt
  rw [mRole_congr hs, h24, h0]
/-- one place -/
theorem look_step {σ τ : jS} {nt : Bool} {n : Nat} (h : qL σ τ n) (hn : n < 4 * mNb τ) (hw : nt = false → mTold (mSt τ n) (τ 25 n) = false) : qL (cSettle1 n σ) (mLook1 nt n τ) (n + 1) := by
  obtain ⟨hT, hR, hS, hN, ht, hd, hpre⟩ := h
  have hnb := hT.2.1.nbl.1
  have hfc := cSettle1_fr n σ
  have hfm := mLook1_fr nt n τ
  have hr := role_rel hT (hR (n / 4) (by omega)) hn
  obtain ⟨r1, r2⟩ := st_rel hr (hS n (by omega)) ht hd
  have hI' : cInv (cSettle1 n σ) := hT.1.of_fr hfc (by decide)
  have hJ' : mInv (mLook1 nt n τ) := hT.2.1.of_fr hfm (by decide)
  have hT' : qT (cSettle1 n σ) (mLook1 nt n τ) := (hT.of_fr hI' hfc (by decide)).of_frM hJ' hfm (by decide)
  have hnb' : mNb (mLook1 nt n τ) = mNb τ := by unfold mNb; rw [hfm 0 (by decide)]
  have hsm : mSame τ (mLook1 nt n τ) := mSame.of_fr hfm (by decide)
  have hwr : cWorth (σ 27 n) (cSt σ n) = mTold (mSt τ n) (τ 25 n) := by rw [(hS n (by omega)).2.2, r2]; exact worth_rel _ _ (st_cases τ n)
  refine ⟨hT', fun b hb => ?_, fun p hp => ?_, fun b hb => ?_, ?_, ?_, fun p hp => ?_⟩
  · rw [hnb'] at hb
    exact ((hR b hb).of_fr hfc (by decide)).of_frM hfm (by decide)
  · have hSp := hS p hp
    unfold qS at hSp ⊢
    rw [set_25, set_26, set_27, mlk_23, mlk_24, mlk_25]
    by_cases e : p = n
    · rw [if_pos e, if_pos e, if_pos e, if_pos e, if_pos e, if_pos e, hr]
      exact ⟨rfl, r1, r2⟩
    · rw [if_neg e, if_neg e, if_neg e, if_neg e, if_neg e, if_neg e]
      exact hSp
  · rw [set_29, mlk_3, hN b hb, hwr]
    cases nt with
    | true => simp
    | false => rw [hw rfl]; simp
  · rw [hfc 3 (by decide), hfm 0 (by decide)]; exact ht
  · rw [hfc 3 (by decide), hfm 0 (by decide)]; exact hd
  · rw [set_25, set_27, mRole_congr hsm]
    by_cases e : p = n
    · subst e
      rw [if_pos rfl, if_pos rfl]
      refine ⟨hr, r2.trans (mState_eq τ p hsm (hfm 0 (by decide)) ?_).symm⟩
      rw [mlk_24, if_pos rfl]
    · rw [if_neg e, if_neg e]
      have h2 := hpre p (by omega)
      refine ⟨h2.1, h2.2.trans ?_⟩
      unfold mState
      rw [mRole_congr hsm, hfm 0 (by decide), mlk_24, if_neg e]
theorem settle_rel {σ τ : jS} (nt : Bool) (hT : qT σ τ) (hS : ∀ p, p < 24 → qS σ τ p) (hN : qN σ τ) (ht : σ 3 2 = τ 0 3) (hd : σ 3 1 = τ 0 1)
    (hw : nt = false → ∀ n, n < 4 * mNb τ → ∀ τ', mSame τ τ' → τ' 0 = τ 0 → (∀ p, n ≤ p → τ' 23 p = τ 23 p ∧ τ' 24 p = τ 24 p ∧ τ' 25 p = τ 25 p) → mTold (mSt τ' n) (τ' 25 n) = false) :
    qL (cSettle σ) (mLook τ nt) (4 * mNb τ) := by
  have hnb := hT.2.1.nbl.1
  obtain ⟨hT0, hR0⟩ := roots_rel hT
  have hfr := cRoots_fr σ
  have h0 : qL (cRoots σ) τ 0 := by
    refine ⟨hT0, hR0, fun p hp => ?_, fun b hb => ?_, ?_, ?_, fun p hp => absurd hp (Nat.not_lt_zero _)⟩
    · have := hS p hp
      unfold qS at this ⊢
      rw [hfr 25 (by decide), hfr 26 (by decide), hfr 27 (by decide)]; exact this
    · rw [hfr 29 (by decide)]; exact hN b hb
    · rw [hfr 3 (by decide)]; exact ht
    · rw [hfr 3 (by decide)]; exact hd
  have key : ∀ n, n ≤ 4 * mNb τ → qL (forN cSettle1 (cRoots σ) n) (forN (mLook1 nt) τ n) n ∧ mSame τ (forN (mLook1 nt) τ n) ∧ forN (mLook1 nt) τ n 0 = τ 0 ∧ ∀ p, n ≤ p → forN (mLook1 nt) τ n 23 p = τ 23 p ∧ forN (mLook1 nt) τ n 24 p = τ 24 p ∧ forN (mLook1 nt) τ n 25 p = τ 25 p := by
    intro n
    induction n with
    | zero => exact fun _ => ⟨h0, fun _ _ => rfl, rfl, fun _ _ => ⟨rfl, rfl, rfl⟩⟩
    | succ n ih =>
      intro hn
      obtain ⟨a1, a2, a3, a4⟩ := ih (by omega)
      have hfm := mLook1_fr nt n (forN (mLook1 nt) τ n)
      have hnb2 : mNb (forN (mLook1 nt) τ n) = mNb τ := by unfold mNb; rw [a3]
      refine ⟨look_step a1 (by rw [hnb2]; omega) (fun e => hw e n (by omega) _ a2 a3 a4), fun k hk => ?_, ?_, fun p hp => ?_⟩
      · exact (mSame.of_fr hfm (by decide) k hk).trans (a2 k hk)
      · exact (hfm 0 (by decide)).trans a3
      · have hne : ¬ p = n := by omega
        have b := a4 p (by omega)
        show mLook1 nt n _ 23 p = _ ∧ mLook1 nt n _ 24 p = _ ∧ mLook1 nt n _ 25 p = _
        rw [mlk_23, mlk_24, mlk_25, if_neg hne, if_neg hne, if_neg hne]
        exact b
  unfold cSettle mLook
  rw [nb_eq hT]
  exact (key _ (Nat.le_refl _)).1
