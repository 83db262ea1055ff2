/-! the sending -/
def sR (s t : jS) (f : Nat) : Prop :=
  s 21 f = t 16 (24 + f) ∧ okP 2 (t 16 (24 + f)) ∧ (¬ t 16 (24 + f) = 0 → s 20 (6 * f + 0) = t 17 (24 + f) ∧ s 20 (6 * f + 1) = t 18 (24 + f) ∧ s 20 (6 * f + 2) = t 19 (24 + f) ∧ s 20 (6 * f + 3) = t 20 (24 + f) ∧ s 20 (6 * f + 4) = t 21 (24 + f) ∧ s 20 (6 * f + 5) = t 22 (24 + f) ∧
    t 5 f = nI 1 ∧ t 13 (t 6 f).toNatClampNeg = 0 ∧ ∃ r c s' k a, t 17 (24 + f) = nI r ∧ t 18 (24 + f) = nI c ∧ t 19 (24 + f) = nI s' ∧ t 20 (24 + f) = nI k ∧ t 21 (24 + f) = nI a ∧ r < 64 ∧ c ≤ 9 * a ∧ s' < 64 ∧ k < 4 ∧ a < 13)
theorem cRole_fr {ks : List Nat} {σ s : jS} (hf : fr ks σ s) (hk : ∀ k ∈ [6, 9, 12, 14, 18, 19, 22, 23, 24], k ∉ ks) (p : Nat) : cRole s p = cRole σ p := by
  unfold cRole cIsUp cWhole cMsgRank cOwnRank
  rw [hf 6 (hk _ (by decide)), hf 9 (hk _ (by decide)), hf 12 (hk _ (by decide)), hf 14 (hk _ (by decide)), hf 18 (hk _ (by decide)), hf 19 (hk _ (by decide)), hf 22 (hk _ (by decide)), hf 23 (hk _ (by decide)), hf 24 (hk _ (by decide))]
theorem cMarked_fr {ks : List Nat} {σ s : jS} (hf : fr ks σ s) (hk : ∀ k ∈ [3, 18, 24, 28], k ∉ ks) (b : Nat) : cMarked s b = cMarked σ b := by
  unfold cMarked
  rw [hf 3 (hk _ (by decide)), hf 18 (hk _ (by decide)), hf 24 (hk _ (by decide)), hf 28 (hk _ (by decide))]
theorem cWhole_fr {ks : List Nat} {σ s : jS} (hf : fr ks σ s) (hk : ∀ k ∈ [9, 12], k ∉ ks) (p : Nat) : cWhole s p = cWhole σ p := by
  unfold cWhole
  rw [hf 9 (hk _ (by decide)), hf 12 (hk _ (by decide))]
/-- the states during the sending: σ, τ are those before it -/
def sI (σ τ s t : jS) : Prop := fr [20, 21] σ s ∧ loS τ t ∧ ∀ f, f < 24 → sR s t f
theorem whole_off {σ τ : jS} {p : Nat} (hP : qP σ τ p) (h : ¬ τ 5 p = nI 1) : cWhole σ p = false := by
  unfold cWhole
  rcases hP with q | q | q | q
  · rw [q.2.1]; rfl
  · exact absurd q.1 h
  · rw [q.2.1]; rfl
  · rw [q.2.1]; rfl
theorem whole_on {σ τ : jS} {p : Nat} (hJ : mInv τ) (hp : p < 24) (hP : qP σ τ p) (h : τ 5 p = nI 1) : cWhole σ p = decide (τ 13 (τ 6 p).toNatClampNeg = 0) := by
  obtain ⟨x, hx, ex⟩ := hJ.wi hp
  have hn1 : ¬ τ 6 p = -1 := by rw [ex]; exact neg1_ne x (by omega)
  obtain ⟨e12, -, e9⟩ := far_at hP h
  unfold cWhole
  rw [e12, e9]
  by_cases e : τ 13 (τ 6 p).toNatClampNeg = 0 <;> simp [hn1, e]
theorem send_step {σ τ s t : jS} {p : Nat} (hT : qT σ τ) (hR : ∀ b, b < mNb τ → qR σ τ b) (hW : zW σ τ) (hB : zB τ) (hA : ∀ p, p < 24 → qA τ p) (ht : σ 3 2 = τ 0 3) (h28 : ∀ b, b < 6 → σ 28 b = τ 2 b)
    (hp : p < 4 * mNb τ) (h : sI σ τ s t) : sI σ τ (cSend1 p s) (mSend1 p t) := by
  have hnb := hT.2.1.nbl.1
  have hp24 : p < 24 := by omega
  have hb : p / 4 < mNb τ := by omega
  have hb6 : p / 4 < 6 := by omega
  have h' := h
  obtain ⟨hf, hl, hs⟩ := h'
  have hPp := hT.2.2.2.2.1 p hp24
  have hRb := hR _ hb
  unfold cSend1 mSend1
  rw [cWhole_fr hf (by decide), cRole_fr hf (by decide), role_rel hT hRb hp, lo_role hl hp24, hl.1 5 (by decide)]
  by_cases h5 : τ 5 p = nI 1
  · rw [if_neg (show ¬ ¬ τ 5 p = nI 1 from fun q => q h5), whole_on hT.2.1 hp24 hPp h5]
    by_cases h13 : τ 13 (τ 6 p).toNatClampNeg = 0
    · rw [if_pos (decide_eq_true h13)]
      by_cases h2 : mRole τ p = nI 2
      · rw [if_neg (show ¬ ¬ mRole τ p = nI 2 from fun q => q h2), if_pos h2]
        obtain ⟨F, w, -, hF, eo, e6, hw10, e5F, e6F⟩ := other_at hT.2.1 hW hB hp24 h5
        have e13 : s 13 p = nI F := by rw [hf 13 (by decide), (far_at hPp h5).2.1, eo]
        have eo' : mOther t p = nI F := by
          unfold mOther at eo ⊢
          rw [hl.1 6 (by decide), hl.1 10 (by decide), hl.1 11 (by decide)]; exact eo
        rw [e13, eo', nI_clamp (n := F) (by omega), sendTo_eq hl hp24 (by omega)]
        have hcut : τ 13 (τ 6 F).toNatClampNeg = 0 := by rw [e6F, ← e6]; exact h13
        -- what is sent
        have hmk : cMarked s (p / 4) = mMarked τ (p / 4) := by rw [cMarked_fr hf (by decide)]; exact marked_rel hT hRb (h28 _ hb6) ht hb
        obtain ⟨idn, eid, hid⟩ := id_at hT hb
        have hage : (if ¬ s 24 (p / 4) = -1 then s 18 (nI 6 * s 24 (p / 4) + nI 4).toNatClampNeg else nI 0) = (if 0 ≤ mPort τ (p / 4) then τ 21 (nI (4 * (p / 4)) + mPort τ (p / 4)).toNatClampNeg else nI 0) ∧
            ∃ r c a, mRootOf τ (p / 4) = nI r ∧ mDist τ (p / 4) = nI c ∧ (if 0 ≤ mPort τ (p / 4) then τ 21 (nI (4 * (p / 4)) + mPort τ (p / 4)).toNatClampNeg else nI 0) = nI a ∧ r < 64 ∧ c ≤ 9 * a ∧ a < 13 := by
          rw [hf 24 (by decide), hf 18 (by decide)]
          rcases hRb.2.2 with ⟨e1, e2⟩ | ⟨k, hk, e1, e2, e4⟩
          · have hneg : ¬ (0 : Int32) ≤ mPort τ (p / 4) := by rw [e1]; decide
            rw [if_neg (fun q => q e2), if_neg hneg]
            refine ⟨rfl, idn, 0, 0, ?_, ?_, rfl, hid, by omega, by omega⟩
            · rw [mRootOf, if_neg hneg, eid]
            · rw [mDist, if_neg hneg]
          · obtain ⟨hge, hix⟩ := port_at e1 hb6 hk
            have hq24 : 4 * (p / 4) + k < 24 := by omega
            have hne : ¬ σ 24 (p / 4) = -1 := by rw [e2]; exact neg1_ne _ (by omega)
            obtain ⟨c0, a0, ec0, ea0, hca, ha0⟩ := hA _ hq24 e4
            obtain ⟨-, r, c, s', kk, w', er, ec, es, ek, ew, hr2, hc, hs2, hkk, hw, eo2, em⟩ := held_at hq24 hT e4
            have hcc : c0 = c ∨ 2 ^ 31 ≤ c0 := by
              by_cases hlt : c0 < 2 ^ 31
              · exact Or.inl ((nI_eq hlt (by omega)).mp (ec0.symm.trans ec))
              · exact Or.inr (by omega)
            rw [if_pos hne, if_pos hge, hix, e2, pk_mul, nI_add, nI_clamp (by omega), (hT.2.2.2.2.2 _ hq24).2.2.2.2.2.2.1]
            refine ⟨rfl, r, c + w', a0, ?_, ?_, ea0, hr2, by omega, ha0⟩
            · rw [mRootOf, if_pos hge, hix, er]
            · rw [mDist, if_pos hge, hix, em]
        obtain ⟨hage1, r, c, a, er, ec, ea, hr, hca, ha⟩ := hage
        have hto : 24 ≤ 24 + F := by omega
        refine ⟨?_, (((((((hl.u (by decide) hto).u (by decide) hto).u (by decide) hto).u (by decide) hto).u (by decide) hto).u (by decide) hto).u (by decide) hto), fun f hf24 => ?_⟩
        · exact hf.tr (cSend_fr s p F)
        · have e21 : ∀ j, cSend s p F 21 j = if j = F then nI 1 else s 21 j := fun j => by
            unfold cSend
            rw [sU_eq, sU_ne (k := 20) (j := 21) _ _ _ (by decide), sU_ne (k := 20) (j := 21) _ _ _ (by decide), sU_ne (k := 20) (j := 21) _ _ _ (by decide), sU_ne (k := 20) (j := 21) _ _ _ (by decide), sU_ne (k := 20) (j := 21) _ _ _ (by decide), sU_ne (k := 20) (j := 21) _ _ _ (by decide)]
          have e20 : ∀ j, cSend s p F 20 j = if j = 6 * F + 5 then bI (cMarked s (p / 4)) else if j = 6 * F + 4 then (if ¬ s 24 (p / 4) = -1 then s 18 (nI 6 * s 24 (p / 4) + nI 4).toNatClampNeg else nI 0) else if j = 6 * F + 3 then nI (p % 4) else if j = 6 * F + 2 then s 6 (p / 4) else if j = 6 * F + 1 then s 23 (p / 4) else if j = 6 * F + 0 then s 22 (p / 4) else s 20 j := fun j => by
            unfold cSend
            rw [sU_ne (k := 21) (j := 20) _ _ _ (by decide), sU_eq, sU_eq, sU_eq, sU_eq, sU_eq, sU_eq]
          generalize cSend s p F = s' at e21 e20 ⊢
          rw [← hage1] at ea
          rw [hmk, hage1, hf 6 (by decide), hf 23 (by decide), hf 22 (by decide), (hT.2.2.2.1 _ hb).1, hRb.1, hRb.2.1] at e20
          rw [hage1] at ea
          generalize hAg : (if 0 ≤ mPort τ (p / 4) then τ 21 (nI (4 * (p / 4)) + mPort τ (p / 4)).toNatClampNeg else nI 0) = ag at e20 ea ⊢
          unfold sR
          have f16 : ∀ j, sU (sU (sU (sU (sU (sU (sU t 16 (24 + F) (nI 1)) 17 (24 + F) (mRootOf τ (p / 4))) 18 (24 + F) (mDist τ (p / 4))) 19 (24 + F) (mId τ (p / 4))) 20 (24 + F) (nI (p % 4))) 21 (24 + F) ag) 22 (24 + F) (bI (mMarked τ (p / 4))) 16 j = if j = 24 + F then nI 1 else t 16 j := fun j => by
            rw [sU_ne (k := 22) (j := 16) _ _ _ (by decide), sU_ne (k := 21) (j := 16) _ _ _ (by decide), sU_ne (k := 20) (j := 16) _ _ _ (by decide), sU_ne (k := 19) (j := 16) _ _ _ (by decide), sU_ne (k := 18) (j := 16) _ _ _ (by decide), sU_ne (k := 17) (j := 16) _ _ _ (by decide), sU_eq]
          have f17 : ∀ j, sU (sU (sU (sU (sU (sU (sU t 16 (24 + F) (nI 1)) 17 (24 + F) (mRootOf τ (p / 4))) 18 (24 + F) (mDist τ (p / 4))) 19 (24 + F) (mId τ (p / 4))) 20 (24 + F) (nI (p % 4))) 21 (24 + F) ag) 22 (24 + F) (bI (mMarked τ (p / 4))) 17 j = if j = 24 + F then mRootOf τ (p / 4) else t 17 j := fun j => by
            rw [sU_ne (k := 22) (j := 17) _ _ _ (by decide), sU_ne (k := 21) (j := 17) _ _ _ (by decide), sU_ne (k := 20) (j := 17) _ _ _ (by decide), sU_ne (k := 19) (j := 17) _ _ _ (by decide), sU_ne (k := 18) (j := 17) _ _ _ (by decide), sU_eq, sU_ne (k := 16) (j := 17) _ _ _ (by decide)]
          have f18 : ∀ j, sU (sU (sU (sU (sU (sU (sU t 16 (24 + F) (nI 1)) 17 (24 + F) (mRootOf τ (p / 4))) 18 (24 + F) (mDist τ (p / 4))) 19 (24 + F) (mId τ (p / 4))) 20 (24 + F) (nI (p % 4))) 21 (24 + F) ag) 22 (24 + F) (bI (mMarked τ (p / 4))) 18 j = if j = 24 + F then mDist τ (p / 4) else t 18 j := fun j => by
            rw [sU_ne (k := 22) (j := 18) _ _ _ (by decide), sU_ne (k := 21) (j := 18) _ _ _ (by decide), sU_ne (k := 20) (j := 18) _ _ _ (by decide), sU_ne (k := 19) (j := 18) _ _ _ (by decide), sU_eq, sU_ne (k := 17) (j := 18) _ _ _ (by decide), sU_ne (k := 16) (j := 18) _ _ _ (by decide)]
          have f19 : ∀ j, sU (sU (sU (sU (sU (sU (sU t 16 (24 + F) (nI 1)) 17 (24 + F) (mRootOf τ (p / 4))) 18 (24 + F) (mDist τ (p / 4))) 19 (24 + F) (mId τ (p / 4))) 20 (24 + F) (nI (p % 4))) 21 (24 + F) ag) 22 (24 + F) (bI (mMarked τ (p / 4))) 19 j = if j = 24 + F then mId τ (p / 4) else t 19 j := fun j => by
            rw [sU_ne (k := 22) (j := 19) _ _ _ (by decide), sU_ne (k := 21) (j := 19) _ _ _ (by decide), sU_ne (k := 20) (j := 19) _ _ _ (by decide), sU_eq, sU_ne (k := 18) (j := 19) _ _ _ (by decide), sU_ne (k := 17) (j := 19) _ _ _ (by decide), sU_ne (k := 16) (j := 19) _ _ _ (by decide)]
          have f20 : ∀ j, sU (sU (sU (sU (sU (sU (sU t 16 (24 + F) (nI 1)) 17 (24 + F) (mRootOf τ (p / 4))) 18 (24 + F) (mDist τ (p / 4))) 19 (24 + F) (mId τ (p / 4))) 20 (24 + F) (nI (p % 4))) 21 (24 + F) ag) 22 (24 + F) (bI (mMarked τ (p / 4))) 20 j = if j = 24 + F then nI (p % 4) else t 20 j := fun j => by
            rw [sU_ne (k := 22) (j := 20) _ _ _ (by decide), sU_ne (k := 21) (j := 20) _ _ _ (by decide), sU_eq, sU_ne (k := 19) (j := 20) _ _ _ (by decide), sU_ne (k := 18) (j := 20) _ _ _ (by decide), sU_ne (k := 17) (j := 20) _ _ _ (by decide), sU_ne (k := 16) (j := 20) _ _ _ (by decide)]
          have f21 : ∀ j, sU (sU (sU (sU (sU (sU (sU t 16 (24 + F) (nI 1)) 17 (24 + F) (mRootOf τ (p / 4))) 18 (24 + F) (mDist τ (p / 4))) 19 (24 + F) (mId τ (p / 4))) 20 (24 + F) (nI (p % 4))) 21 (24 + F) ag) 22 (24 + F) (bI (mMarked τ (p / 4))) 21 j = if j = 24 + F then ag else t 21 j := fun j => by
            rw [sU_ne (k := 22) (j := 21) _ _ _ (by decide), sU_eq, sU_ne (k := 20) (j := 21) _ _ _ (by decide), sU_ne (k := 19) (j := 21) _ _ _ (by decide), sU_ne (k := 18) (j := 21) _ _ _ (by decide), sU_ne (k := 17) (j := 21) _ _ _ (by decide), sU_ne (k := 16) (j := 21) _ _ _ (by decide)]
          have f22 : ∀ j, sU (sU (sU (sU (sU (sU (sU t 16 (24 + F) (nI 1)) 17 (24 + F) (mRootOf τ (p / 4))) 18 (24 + F) (mDist τ (p / 4))) 19 (24 + F) (mId τ (p / 4))) 20 (24 + F) (nI (p % 4))) 21 (24 + F) ag) 22 (24 + F) (bI (mMarked τ (p / 4))) 22 j = if j = 24 + F then bI (mMarked τ (p / 4)) else t 22 j := fun j => by
            rw [sU_eq, sU_ne (k := 21) (j := 22) _ _ _ (by decide), sU_ne (k := 20) (j := 22) _ _ _ (by decide), sU_ne (k := 19) (j := 22) _ _ _ (by decide), sU_ne (k := 18) (j := 22) _ _ _ (by decide), sU_ne (k := 17) (j := 22) _ _ _ (by decide), sU_ne (k := 16) (j := 22) _ _ _ (by decide)]
          have hg : fr [16, 17, 18, 19, 20, 21, 22] t (sU (sU (sU (sU (sU (sU (sU t 16 (24 + F) (nI 1)) 17 (24 + F) (mRootOf τ (p / 4))) 18 (24 + F) (mDist τ (p / 4))) 19 (24 + F) (mId τ (p / 4))) 20 (24 + F) (nI (p % 4))) 21 (24 + F) ag) 22 (24 + F) (bI (mMarked τ (p / 4)))) := ((((((fr.rf.u (by decide) _ _).u (by decide) _ _).u (by decide) _ _).u (by decide) _ _).u (by decide) _ _).u (by decide) _ _).u (by decide) _ _
          generalize sU (sU (sU (sU (sU (sU (sU t 16 (24 + F) (nI 1)) 17 (24 + F) (mRootOf τ (p / 4))) 18 (24 + F) (mDist τ (p / 4))) 19 (24 + F) (mId τ (p / 4))) 20 (24 + F) (nI (p % 4))) 21 (24 + F) ag) 22 (24 + F) (bI (mMarked τ (p / 4))) = t' at f16 f17 f18 f19 f20 f21 f22 hg ⊢
          by_cases e : f = F
          · subst e
            rw [e21, if_pos rfl, f16, if_pos rfl, f17, if_pos rfl, f18, if_pos rfl, f19, if_pos rfl, f20, if_pos rfl, f21, if_pos rfl, f22, if_pos rfl, hg 5 (by decide), hg 6 (by decide), hg 13 (by decide), hl.1 5 (by decide), hl.1 6 (by decide), hl.1 13 (by decide)]
            refine ⟨rfl, ⟨1, by decide, rfl⟩, fun _ => ⟨?_, ?_, ?_, ?_, ?_, ?_, e5F, hcut, r, c, idn, p % 4, a, er, ec, eid, rfl, ea, hr, hca, hid, by omega, ha⟩⟩
            · rw [e20, if_neg (by omega), if_neg (by omega), if_neg (by omega), if_neg (by omega), if_neg (by omega), if_pos rfl]
            · rw [e20, if_neg (by omega), if_neg (by omega), if_neg (by omega), if_neg (by omega), if_pos rfl]
            · rw [e20, if_neg (by omega), if_neg (by omega), if_neg (by omega), if_pos rfl]
            · rw [e20, if_neg (by omega), if_neg (by omega), if_pos rfl]
            · rw [e20, if_neg (by omega), if_pos rfl]
            · rw [e20, if_pos rfl]
          · have ne : ∀ j, j < 6 → s' 20 (6 * f + j) = s 20 (6 * f + j) := fun j hj => by
              rw [e20, if_neg (by omega), if_neg (by omega), if_neg (by omega), if_neg (by omega), if_neg (by omega), if_neg (by omega)]
            have n24 : ¬ 24 + f = 24 + F := by omega
            rw [e21, if_neg e, f16, if_neg n24, f17, if_neg n24, f18, if_neg n24, f19, if_neg n24, f20, if_neg n24, f21, if_neg n24, f22, if_neg n24, hg 5 (by decide), hg 6 (by decide), hg 13 (by decide), ne 0 (by decide), ne 1 (by decide), ne 2 (by decide), ne 3 (by decide), ne 4 (by decide), ne 5 (by decide)]
            exact hs f hf24
      · rw [if_pos h2, if_neg h2]
        exact h
    · have hno : mRole τ p = nI 0 := by
        unfold mRole mIsUp
        rw [h5, decide_eq_false h13, Bool.and_false, Bool.or_false, if_neg (by decide)]
      rw [if_neg (by rw [decide_eq_false h13]; decide), hno, if_neg (by decide)]
      exact h
  · rw [if_pos h5, whole_off hPp h5, if_neg (by decide)]
    exact h
