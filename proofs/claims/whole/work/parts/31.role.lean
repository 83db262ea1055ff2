/-! what the reference's reads depend on -/
def mKs : List Nat := [1, 5, 6, 12, 13, 16, 17, 18, 19, 20]
def mSame (τ τ' : jS) : Prop := ∀ k ∈ mKs, τ' k = τ k
theorem mSame.of_fr {ks : List Nat} {τ τ' : jS} (h : fr ks τ τ') (hk : ∀ k ∈ mKs, k ∉ ks) : mSame τ τ' := fun k hm => h k (hk k hm)
theorem mPortN_congr {τ τ' : jS} (h : mSame τ τ') (b : Nat) : ∀ n, mPortN τ' b n = mPortN τ b n := by
  have e1 := h 1 (by decide); have e6 := h 6 (by decide); have e12 := h 12 (by decide); have e16 := h 16 (by decide); have e17 := h 17 (by decide)
  have e18 := h 18 (by decide); have e19 := h 19 (by decide); have e20 := h 20 (by decide)
  intro n
  induction n with
  | zero => rfl
  | succ n ih =>
    unfold mPortN mOffer mId
    rw [ih, e1, e6, e12, e16, e17, e18, e19, e20]
theorem mPort_congr {τ τ' : jS} (h : mSame τ τ') (b : Nat) : mPort τ' b = mPort τ b := congrArg Prod.fst (mPortN_congr h b 4)
theorem mRootOf_congr {τ τ' : jS} (h : mSame τ τ') (b : Nat) : mRootOf τ' b = mRootOf τ b := by
  unfold mRootOf mId
  rw [mPort_congr h, h 1 (by decide), h 17 (by decide)]
theorem mDist_congr {τ τ' : jS} (h : mSame τ τ') (b : Nat) : mDist τ' b = mDist τ b := by
  unfold mDist
  rw [mPort_congr h, h 18 (by decide), h 12 (by decide), h 6 (by decide)]
theorem mRole_congr {τ τ' : jS} (h : mSame τ τ') (p : Nat) : mRole τ' p = mRole τ p := by
  unfold mRole mIsUp mKeyM mKeyO mId
  rw [mPort_congr h, mRootOf_congr h, mDist_congr h, h 1 (by decide), h 5 (by decide), h 6 (by decide), h 13 (by decide), h 16 (by decide), h 17 (by decide), h 18 (by decide), h 19 (by decide), h 20 (by decide)]
/-! the base relation under a frame -/
theorem qT.of_fr {ks : List Nat} {σ σ' τ : jS} (h : qT σ τ) (hI : cInv σ') (hf : fr ks σ σ') (hk : ∀ k ∈ [1, 6, 8, 9, 12, 13, 14, 18, 19], k ∉ ks) : qT σ' τ := by
  have e : ∀ k ∈ [1, 6, 8, 9, 12, 13, 14, 18, 19], σ' k = σ k := fun k hm => hf k (hk k hm)
  have e1 := e 1 (by decide); have e6 := e 6 (by decide); have e8 := e 8 (by decide); have e9 := e 9 (by decide); have e12 := e 12 (by decide)
  have e13 := e 13 (by decide); have e14 := e 14 (by decide); have e18 := e 18 (by decide); have e19 := e 19 (by decide)
  unfold qT qP qM at h ⊢
  rw [e1, e6, e8, e9, e12, e13, e14, e18, e19]
  exact ⟨hI, h.2⟩
/-- the roots as the class keeps them -/
def qR (σ τ : jS) (b : Nat) : Prop :=
  σ 22 b = mRootOf τ b ∧ σ 23 b = mDist τ b ∧ ((mPort τ b = -1 ∧ σ 24 b = -1) ∨ ∃ k, k < 4 ∧ mPort τ b = nI k ∧ σ 24 b = nI (4 * b + k) ∧ ¬ τ 16 (4 * b + k) = 0)
theorem port_at {τ : jS} {b k : Nat} (e : mPort τ b = nI k) (hb : b < 6) (hk : k < 4) : 0 ≤ mPort τ b ∧ (nI (4 * b) + mPort τ b).toNatClampNeg = 4 * b + k := by
  rw [e, nI_add, nI_clamp (by omega)]
  exact ⟨nI_pos' (by omega), rfl⟩
theorem root1_rel {σ τ : jS} {b : Nat} (h : qT σ τ) (hb : b < mNb τ) : qR (cRoot1 b σ) τ b := by
  have hnb := h.2.1.nbl.1
  have e24 : cRoot1 b σ 24 b = cBest σ b := (sU_eq σ 24 b (cBest σ b) b).trans (if_pos rfl)
  have e22 : cRoot1 b σ 22 b = if ¬ cBest σ b = -1 then σ 18 (nI 6 * cBest σ b + nI 0).toNatClampNeg else σ 6 b := (sU_eq _ 22 b _ b).trans (if_pos rfl)
  have e23 : cRoot1 b σ 23 b = if ¬ cBest σ b = -1 then cOffCost σ (cBest σ b).toNatClampNeg else nI 0 := (sU_eq _ 23 b _ b).trans (if_pos rfl)
  unfold qR
  rw [e22, e23, e24]
  rcases port_rel h hb 4 (Nat.le_refl _) with ⟨e1, e2⟩ | ⟨k, hk, e1, e2, -, e4⟩
  · have e1' : mPort τ b = -1 := e1
    have e2' : cBest σ b = -1 := e2
    have hneg : ¬ (0 : Int32) ≤ mPort τ b := by rw [e1']; decide
    rw [if_neg (fun q => q e2'), if_neg (fun q => q e2'), mRootOf, if_neg hneg, mDist, if_neg hneg]
    exact ⟨(h.2.2.2.1 b hb).1, rfl, Or.inl ⟨e1', e2'⟩⟩
  · have e1' : mPort τ b = nI k := e1
    have e2' : cBest σ b = nI (4 * b + k) := e2
    obtain ⟨hge, hix⟩ := port_at e1' (by omega) hk
    have hne : ¬ cBest σ b = -1 := by rw [e2']; exact neg1_ne _ (by omega)
    have hp : 4 * b + k < 24 := by omega
    obtain ⟨-, r, c, s, kk, w, er, ec, es, ek, ew, hr, hc, hs, hkk, hw, eo, em⟩ := held_at hp h e4
    rw [if_pos hne, if_pos hne, mRootOf, if_pos hge, mDist, if_pos hge, hix, e2', nI_clamp (by omega), pk_mul, nI_add, nI_clamp (by omega)]
    exact ⟨(h.2.2.2.2.2 _ hp).2.2.1, eo.trans em.symm, Or.inr ⟨k, hk, e1', rfl, e4⟩⟩
theorem rootN_keep (σ : jS) (b : Nat) : ∀ n, b < n → ∀ k ∈ [22, 23, 24], forN cRoot1 σ n k b = cRoot1 b (forN cRoot1 σ b) k b := by
  intro n
  induction n with
  | zero => exact fun h => absurd h (Nat.not_lt_zero _)
  | succ n ih =>
    intro hb k hk
    by_cases e : b = n
    · subst e; rfl
    · rw [← ih (by omega) k hk]
      show cRoot1 n (forN cRoot1 σ n) k b = _
      have hne : ¬ b = n := e
      rcases List.mem_cons.mp hk with rfl | hk
      · exact (sU_eq _ 22 n _ b).trans (if_neg hne)
      · rcases List.mem_cons.mp hk with rfl | hk
        · exact (sU_eq _ 23 n _ b).trans (if_neg hne)
        · rcases List.mem_cons.mp hk with rfl | hk
          · exact (sU_eq _ 24 n _ b).trans (if_neg hne)
          · cases hk
theorem nb_eq {σ τ : jS} (h : qT σ τ) : cNb σ = mNb τ := congrArg Int32.toNatClampNeg h.2.2.1
theorem roots_rel {σ τ : jS} (h : qT σ τ) : qT (cRoots σ) τ ∧ ∀ b, b < mNb τ → qR (cRoots σ) τ b := by
  have hnb := h.2.1.nbl.1
  have hN := nb_eq h
  have hq : ∀ n, n ≤ 6 → qT (forN cRoot1 σ n) τ := fun n hn => h.of_fr (cRootN_inv h.1 n hn) (fr.n cRoot1_fr σ n) (by decide)
  refine ⟨hq _ (by omega), fun b hb => ?_⟩
  have hr := root1_rel (hq b (by omega)) hb
  unfold qR at hr ⊢
  unfold cRoots
  rw [hN, rootN_keep σ b _ hb 22 (by decide), rootN_keep σ b _ hb 23 (by decide), rootN_keep σ b _ hb 24 (by decide)]
  exact hr
/-! roles -/
theorem up_rel {σ τ : jS} {p : Nat} (h : qT σ τ) (hp : p < 24) : cIsUp σ p = mIsUp τ p := by
  have hwi := h.2.1.wi hp
  have hn1 : ¬ τ 6 p = -1 := by
    obtain ⟨x, hx, ex⟩ := hwi
    rw [ex]; exact neg1_ne x (by omega)
  have h10 : ¬ nI 1 < nI 0 := by decide
  have h11 : ¬ nI 1 < nI 1 := by decide
  have h12 : nI 1 < nI 2 := by decide
  have h13 : nI 1 < nI 3 := by decide
  have h01 : ¬ nI 0 = nI 1 := by decide
  unfold cIsUp mIsUp cWhole
  rcases h.2.2.2.2.1 p hp with q | q | q | q
  · obtain ⟨q5, q12, -, q14⟩ := q
    rw [q5, q12, q14]; simp [h10, h01]
  · obtain ⟨q5, q12, -, q14, q9, -⟩ := q
    have hb1 : (τ 6 p != -1) = true := bne_iff_ne.mpr hn1
    rw [q5, q12, q14, q9, hb1]
    by_cases hz : τ 13 (τ 6 p).toNatClampNeg = 0
    · simp [h11, hz]
    · simp [h11, hz]
  · obtain ⟨q5, q12, -, q14, -⟩ := q
    rw [q5, q12, q14]; simp [h12, hn1]
  · obtain ⟨q5, q12, -, q14⟩ := q
    have : ¬ nI 6 = -1 := by decide
    rw [q5, q12, q14]; simp [h13, this]
theorem id_at {σ τ : jS} {b : Nat} (h : qT σ τ) (hb : b < mNb τ) : ∃ i, mId τ b = nI i ∧ i < 64 := by
  have hnb := h.2.1.nbl.1
  obtain ⟨x, hx, ex⟩ := (h.2.2.2.1 b hb).2
  unfold mId
  rw [ex, pk_mul, nI_add]
  exact ⟨_, rfl, by omega⟩
theorem root_at {σ τ : jS} {b : Nat} (h : qT σ τ) (hr : qR σ τ b) (hb : b < mNb τ) : ∃ r c, mRootOf τ b = nI r ∧ mDist τ b = nI c ∧ r < 64 ∧ c < 2 ^ 20 := by
  have hnb := h.2.1.nbl.1
  rcases hr.2.2 with ⟨e1, -⟩ | ⟨k, hk, e1, -, e4⟩
  · have hneg : ¬ (0 : Int32) ≤ mPort τ b := by rw [e1]; decide
    obtain ⟨i, ei, hi⟩ := id_at h hb
    exact ⟨i, 0, by rw [mRootOf, if_neg hneg, ei], by rw [mDist, if_neg hneg], hi, by decide⟩
  · obtain ⟨hge, hix⟩ := port_at e1 (by omega) hk
    obtain ⟨-, r, c, s, kk, w, er, ec, es, ek, ew, hr2, hc, hs, hkk, hw, eo, em⟩ := held_at (p := 4 * b + k) (by omega) h e4
    exact ⟨r, c + w, by rw [mRootOf, if_pos hge, hix, er], by rw [mDist, if_pos hge, hix, em], hr2, by omega⟩
theorem role_rel {σ τ : jS} {p : Nat} (h : qT σ τ) (hR : qR σ τ (p / 4)) (hp : p < 4 * mNb τ) : cRole σ p = mRole τ p := by
  have hnb := h.2.1.nbl.1
  have hp2 : p < 24 := by omega
  have hb : p / 4 < mNb τ := by omega
  have hup := up_rel h hp2
  have hport : σ 24 (p / 4) = nI p ↔ mPort τ (p / 4) = nI (p % 4) := by
    rcases hR.2.2 with ⟨e1, e2⟩ | ⟨k, hk, e1, e2, -⟩
    · rw [e1, e2]
      exact ⟨fun e => absurd e.symm (neg1_ne _ (by omega)), fun e => absurd e.symm (neg1_ne _ (by omega))⟩
    · rw [e1, e2, nI_eq (by omega) (by omega), nI_eq (by omega) (by omega)]
      omega
  have e19 := (h.2.2.2.2.2 p hp2).1
  unfold cRole mRole
  rw [hup, e19]
  by_cases h1 : mIsUp τ p = true
  · rw [if_pos h1, if_pos h1]
    by_cases h2 : mPort τ (p / 4) = nI (p % 4)
    · rw [if_neg (fun e => e (hport.mpr h2)), if_neg (fun e => e h2)]
    · rw [if_pos (fun e => h2 (hport.mp e)), if_pos h2]
      by_cases h3 : τ 16 p = 0
      · rw [if_pos h3, if_pos h3]
      · rw [if_neg h3, if_neg h3]
        obtain ⟨-, r, c, s, k, w, er, ec, es, ek, ew, hr, hc, hs, hk, hw, -, -⟩ := held_at hp2 h h3
        obtain ⟨r', c', er', ec', hr', hc'⟩ := root_at h hR hb
        obtain ⟨i, ei, hi⟩ := id_at h hb
        obtain ⟨-, -, a0, a1, a2, a3, -⟩ := h.2.2.2.2.2 p hp2
        have hle : cMsgRank σ p ≤ cOwnRank σ p ↔ mKeyM τ p ≤ mKeyO τ p := by
          unfold cMsgRank cOwnRank mKeyM mKeyO
          rw [a0, a1, a2, a3, hR.1, hR.2.1, (h.2.2.2.1 _ hb).1, er, ec, es, ek, er', ec', ei]
          exact rank_le hr (by omega) hs hk hr' hc' hi (by omega)
        by_cases h4 : mKeyM τ p ≤ mKeyO τ p
        · rw [if_pos h4, if_pos (hle.mpr h4)]
        · rw [if_neg h4, if_neg (fun e => h4 (hle.mp e))]
  · rw [if_neg h1, if_neg h1]
