/-! a tick -/
theorem cAge_fr (σ : jS) : fr [18, 19] σ (cAge σ) := fr.n cAge1_fr σ 24
theorem mAge_fr (τ : jS) : fr [16, 21] τ (mAge τ) := fr.n mAge1_fr τ 24
theorem forget_rel {σ τ : jS} (h : zR σ τ) (e : Nat) : zR (sU σ 31 e (-1)) (sU τ 26 e (nI 0)) := by
  have hf : fr [31] σ (sU σ 31 e (-1)) := fr.rf.u (by decide) _ _
  have hg : fr [26] τ (sU τ 26 e (nI 0)) := fr.rf.u (by decide) _ _
  refine ⟨h.1.of (h.qT.1.of_fr hf (by decide)) (h.qT.2.1.of_fr hg (by decide)) (fun k hk => hf k (by revert k; decide)) (fun k hk => hg k (by revert k; decide)) rfl rfl rfl, ?_, h.2.2.1.of hf hg (by decide) (by decide), h.2.2.2.1.of hf hg (by decide) (by decide) rfl, h.2.2.2.2.1.of hf hg (by decide) (by decide), h.2.2.2.2.2.1.of hf hg (by decide) (by decide), fun j hj => ?_, h.2.2.2.2.2.2.2.of hg (by decide) rfl⟩
  · unfold zS
    rw [hf 0 (by decide), hf 1 (by decide), hf 3 (by decide), hf 5 (by decide), hg 0 (by decide)]
    exact h.2.1
  · rw [hf 32 (by decide), hg 27 (by decide), sU_eq, sU_eq]
    have := h.2.2.2.2.2.2.1 j hj
    by_cases q : j = e
    · rw [if_pos q, if_pos q]; exact ⟨Or.inl ⟨rfl, rfl⟩, this.2⟩
    · rw [if_neg q, if_neg q]; exact this
theorem forgetN_rel {σ τ : jS} (h : zR σ τ) {b : Nat} (hb : b < 6) (span : Int32) : ∀ n, n ≤ 28 → zR (forN (cForget1 b (σ 3 2) span) σ n) (forN (mForget1 b span) τ n) := by
  intro n
  induction n with
  | zero => exact fun _ => h
  | succ n ih =>
    intro hn
    have ih := ih (by omega)
    have hg : fr [26] τ (forN (mForget1 b span) τ n) := fr.n (mForget1_fr b span) τ n
    have hE := (ih.2.2.2.2.2.2.1 (28 * b + n) (by omega)).2
    have ht : σ 3 2 = forN (mForget1 b span) τ n 0 3 := by rw [hg 0 (by decide)]; exact h.1.2.2.2.2.1
    show zR (cForget1 b (σ 3 2) span n (forN (cForget1 b (σ 3 2) span) σ n)) (mForget1 b span n (forN (mForget1 b span) τ n))
    generalize forN (cForget1 b (σ 3 2) span) σ n = s at ih hE ⊢
    generalize forN (mForget1 b span) τ n = t at ih hE ht ⊢
    unfold cForget1 mForget1
    rw [hE, ht]
    by_cases q : t 0 3 - t 27 (28 * b + n) < span
    · rw [if_pos q, if_pos q]; exact ih
    · rw [if_neg q, if_neg q]; exact forget_rel ih _
theorem most_rel {σ τ : jS} (h : zR σ τ) {b : Nat} (hb : b < mNb τ) : (if cMarked σ b = false then σ 0 0 else σ 3 1) = mMost τ b := by
  have hnb := h.qT.2.1.nbl.1
  have hm := marked_rel h.qT (h.1.2.1 b hb) (h.2.2.1.1 b (by omega)) h.1.2.2.2.2.1 hb
  obtain ⟨d, hd0, hd5, ed⟩ := h.2.1.2.2.2.1
  obtain ⟨m, hm5, hm41, em⟩ := h.2.1.2.2.2.2
  unfold mMost
  rw [hm, h.2.1.2.1.2.1, h.1.2.2.2.2.2.1]
  by_cases q : mMarked τ b = false
  · rw [if_pos q, if_pos q]
  · rw [if_neg q, if_neg q, if_neg (by rw [em, ed, nI_leI (by omega) (by omega)]; omega)]
theorem forN_nx (f : Nat → jS → jS) (σ : jS) (n : Nat) : forN f σ (n + 1) = f n (forN f σ n) := rfl
theorem old_step {s t : jS} {n : Nat} (a : zR s t) (hn : n < mNb t) : zR (cOld1 n s) (mOld1 n t) := by
  have hnb := a.qT.2.1.nbl.1
  unfold cOld1 mOld1 cForget
  rw [most_rel a hn]
  exact forgetN_rel a (by omega) _ 28 (Nat.le_refl _)
theorem old_n {σ τ : jS} (h : zR σ τ) : ∀ n, n ≤ mNb τ → zR (forN cOld1 σ n) (forN mOld1 τ n) ∧ mNb (forN mOld1 τ n) = mNb τ := by
  intro n
  induction n with
  | zero => exact fun _ => ⟨h, rfl⟩
  | succ n ih =>
    intro hn
    obtain ⟨a, b⟩ := ih (by omega)
    rw [forN_nx, forN_nx]
    generalize forN cOld1 σ n = s at a ⊢
    generalize forN mOld1 τ n = t at a b ⊢
    have hg : fr [26] t (mOld1 n t) := mOld1_fr n t
    exact ⟨old_step a (by rw [b]; omega), by rw [← b]; unfold mNb; rw [hg 0 (by decide)]⟩
theorem old_rel {σ τ : jS} (h : zR σ τ) : zR (cOld σ) (mOld τ) := by
  unfold cOld mOld
  rw [nb_eq h.qT]
  exact (old_n h _ (Nat.le_refl _)).1
theorem tick_end {σ τ : jS} (hT : qT σ τ) (hS : ∀ p, p < 24 → qS σ τ p) (hN : qN σ τ) (hd : σ 3 1 = τ 0 1) (ht : σ 3 2 = τ 0 3) (zs : zS σ τ) (zu : zU σ τ) (zw : zW σ τ) (zh : zH σ τ) (zv : zV σ τ) (ze : zE σ τ) (zb : zB τ) (hA : ∀ p, p < 24 → qA τ p) :
    zR (cSettle (cTake (cSends (cPass (cRoots σ))))) (mLook (mSends (mPass τ)) true) := by
  have hnb := hT.2.1.nbl.1
  obtain ⟨hT2, hR2⟩ := roots_rel hT
  have hf2 := cRoots_fr σ
  have hN2 : qN (cRoots σ) τ := fun b hb => by rw [hf2 29 (by decide)]; exact hN b hb
  have zw2 : zW (cRoots σ) τ := zw.of hf2 (fr.rf (ks := [])) (by decide) (by decide) rfl
  generalize cRoots σ = σ2 at hT2 hR2 hf2 hN2 zw2 ⊢
  obtain ⟨hN3, hb3, hz3, hu3⟩ := pass_rel hT2 hR2 hN2 zw2 zb (by rw [hf2 3 (by decide)]; exact zs.2.1.1) (by rw [hf2 3 (by decide)]; exact hd) (by rw [hf2 3 (by decide)]; exact ht) (fun b hb => by rw [hf2 28 (by decide)]; exact zu.1 b hb)
  have hf3 := cPass_fr σ2
  have hg3 := mPass_fr τ
  have hJ3 : mInv (mPass τ) := mPass_inv hT2.2.1
  have hI3 : cInv (cPass σ2) := cPass_inv hT2.1
  generalize cPass σ2 = σ3 at hN3 hu3 hf3 hI3 ⊢
  generalize mPass τ = τ3 at hN3 hb3 hz3 hu3 hg3 hJ3 ⊢
  have hnb3 : mNb τ3 = mNb τ := by unfold mNb; rw [hg3 0 (by decide)]
  have hT3 : qT σ3 τ3 := (hT2.of_fr hI3 hf3 (by decide)).of_frM hJ3 hg3 (by decide)
  have hR3 : ∀ b, b < mNb τ3 → qR σ3 τ3 b := fun b hb => ((hR2 b (by rw [← hnb3]; exact hb)).of_fr hf3 (by decide)).of_frM hg3 (by decide)
  have zw3 : zW σ3 τ3 := zw2.of hf3 hg3 (by decide) (by decide) (by rw [hg3 0 (by decide)])
  have zb3 : zB τ3 := by
    refine ⟨hb3, fun b hb => hz3 b (by rw [← hnb3]; exact hb), fun p hp => ?_⟩
    rw [hg3 5 (by decide), hg3 23 (by decide), hg3 25 (by decide)]
    exact zb.2.2 p (by rw [← hnb3]; exact hp)
  have hA3 : ∀ p, p < 24 → qA τ3 p := fun p hp => by
    have := hA p hp
    unfold qA at this ⊢
    rw [hg3 16 (by decide), hg3 18 (by decide), hg3 21 (by decide)]
    exact this
  have ht3 : σ3 3 2 = τ3 0 3 := by rw [hf3 3 (by decide), hf2 3 (by decide), hg3 0 (by decide)]; exact ht
  have h21 : ∀ p, p < 24 → σ3 21 p = 0 := fun p hp => by rw [hf3 21 (by decide), hf2 21 (by decide)]; exact zu.2 p hp
  obtain ⟨hf4, hg4, hM4, h214⟩ := sends_rel hT3 hR3 zw3 zb3 hA3 ht3 hu3 h21
  have hJ4 : mInv (mSends τ3) := mSends_inv hJ3
  have hI4 : cInv (cTake (cSends σ3)) := hI3.of_fr hf4 (by decide)
  generalize cTake (cSends σ3) = σ4 at hf4 hM4 h214 hI4 ⊢
  generalize mSends τ3 = τ4 at hg4 hM4 hJ4 ⊢
  have hnb4 : mNb τ4 = mNb τ3 := by unfold mNb; rw [hg4 0 (by decide)]
  have hT4 : qT σ4 τ4 := by
    refine ⟨hI4, hJ4, ?_, fun b hb => ?_, fun p hp => ?_, hM4⟩
    · rw [hf4 1 (by decide), hg4 0 (by decide)]; exact hT3.2.2.1
    · rw [hnb4] at hb
      unfold mId
      rw [hf4 6 (by decide), hg4 1 (by decide)]; exact hT3.2.2.2.1 b hb
    · have := hT3.2.2.2.2.1 p hp
      unfold qP mOther at this ⊢
      rw [hf4 12 (by decide), hf4 13 (by decide), hf4 14 (by decide), hf4 9 (by decide), hf4 8 (by decide), hg4 5 (by decide), hg4 6 (by decide), hg4 13 (by decide), hg4 12 (by decide), hg4 10 (by decide), hg4 11 (by decide)]
      exact this
  have hS4 : ∀ p, p < 24 → qS σ4 τ4 p := fun p hp => by
    have := hS p hp
    unfold qS at this ⊢
    rw [hf4 25 (by decide), hf3 25 (by decide), hf2 25 (by decide), hf4 26 (by decide), hf3 26 (by decide), hf2 26 (by decide), hf4 27 (by decide), hf3 27 (by decide), hf2 27 (by decide), hg4 23 (by decide), hg3 23 (by decide), hg4 24 (by decide), hg3 24 (by decide), hg4 25 (by decide), hg3 25 (by decide)]
    exact this
  have hf24 : fr [22, 23, 24, 28, 29, 30, 18, 19, 20, 21] σ σ4 := ((hf2.wk (by decide)).tr (hf3.wk (by decide))).tr (hf4.wk (by decide))
  have hg24 : fr [2, 3, 4, 16, 17, 18, 19, 20, 21, 22] τ τ4 := (hg3.wk (by decide)).tr (hg4.wk (by decide))
  refine fin_rel (settle_rel true hT4 hS4 (fun b hb => ?_) ?_ ?_ (fun e => absurd e (by decide))) ?_ ⟨fun b hb => ?_, h214⟩ (zw.of hf24 hg24 (by decide) (by decide) (by rw [hg24 0 (by decide)])) (zh.of hf24 hg24 (by decide) (by decide)) (zv.of hf24 hg24 (by decide) (by decide)) (ze.of hf24 hg24 (by decide) (by decide)) (zb3.of hg4 (by decide) (by rw [hg4 0 (by decide)]))
  · rw [hf4 29 (by decide), hg4 3 (by decide)]; exact hN3 b hb
  · rw [hf24 3 (by decide), hg24 0 (by decide)]; exact ht
  · rw [hf24 3 (by decide), hg24 0 (by decide)]; exact hd
  · unfold zS at zs ⊢
    rw [hf24 1 (by decide), hf24 0 (by decide), hf24 5 (by decide), hf24 3 (by decide), hg24 0 (by decide)]
    exact zs
  · rw [hf4 28 (by decide), hg4 2 (by decide)]; exact hu3 b hb
theorem tick_rel {σ τ : jS} (h : zR σ τ) : zR (cTick1 σ) (mTick τ) := by
  obtain ⟨⟨hT, hR, hS, hN, ht, hd, hpre⟩, zs, zu, zw, zh, zv, ze, zb⟩ := h
  have hnb := hT.2.1.nbl.1
  refine old_rel ?_
  unfold cTick
  -- time
  have hf0 : fr [3] σ (sU σ 3 2 (σ 3 2 + nI 1)) := fr.rf.u (by decide) _ _
  have hg0 : fr [0] τ (sU τ 0 3 (τ 0 3 + nI 1)) := fr.rf.u (by decide) _ _
  have s30 : sU σ 3 2 (σ 3 2 + nI 1) 3 0 = σ 3 0 := rfl
  have s31 : sU σ 3 2 (σ 3 2 + nI 1) 3 1 = σ 3 1 := rfl
  have s32 : sU σ 3 2 (σ 3 2 + nI 1) 3 2 = σ 3 2 + nI 1 := rfl
  have t0 : ∀ i, ¬ i = 3 → sU τ 0 3 (τ 0 3 + nI 1) 0 i = τ 0 i := fun i hi => by rw [sU_eq, if_neg hi]
  have t03 : sU τ 0 3 (τ 0 3 + nI 1) 0 3 = τ 0 3 + nI 1 := rfl
  have hI0 : cInv (sU σ 3 2 (σ 3 2 + nI 1)) := hT.1.of_fr hf0 (by decide)
  have hJ0 : mInv (sU τ 0 3 (τ 0 3 + nI 1)) := hT.2.1.u0 (by decide) (by decide) (by decide) (by decide)
  generalize sU σ 3 2 (σ 3 2 + nI 1) = σ0 at hf0 s30 s31 s32 hI0 ⊢
  generalize sU τ 0 3 (τ 0 3 + nI 1) = τ0 at hg0 t0 t03 hJ0 ⊢
  have hM0 : ∀ p, p < 24 → qM σ0 τ0 p := fun p hp => by
    have := hT.2.2.2.2.2 p hp
    unfold qM at this ⊢
    rw [hf0 18 (by decide), hf0 19 (by decide), hg0 16 (by decide), hg0 17 (by decide), hg0 18 (by decide), hg0 19 (by decide), hg0 20 (by decide), hg0 21 (by decide), hg0 22 (by decide), hg0 5 (by decide), hg0 6 (by decide), hg0 13 (by decide)]
    exact this
  -- age
  have hage := age_rel (σ := σ0) (τ := τ0) (by rw [s30, t0 0 (by decide)]; exact zs.2.1.1) (by rw [t0 0 (by decide)]; exact zs.2.2.1) hM0 24 (Nat.le_refl _)
  have hf1 : fr [3, 18, 19] σ (cAge σ0) := (hf0.wk (by decide)).tr ((cAge_fr σ0).wk (by decide))
  have hg1 : fr [0, 16, 21] τ (mAge τ0) := (hg0.wk (by decide)).tr ((mAge_fr τ0).wk (by decide))
  have a3 : cAge σ0 3 = σ0 3 := cAge_fr σ0 3 (by decide)
  have b0 : mAge τ0 0 = τ0 0 := mAge_fr τ0 0 (by decide)
  have hI1 : cInv (cAge σ0) := hI0.of_fr (cAge_fr σ0) (by decide)
  have hJ1 : mInv (mAge τ0) := mAge_inv hJ0
  have hage1 : ∀ p, p < 24 → qM (cAge σ0) (mAge τ0) p := hage.1
  have hage2 : ∀ p, p < 24 → qA (mAge τ0) p := hage.2
  generalize cAge σ0 = σ1 at hf1 a3 hI1 hage1 ⊢
  generalize mAge τ0 = τ1 at hg1 b0 hJ1 hage1 hage2 ⊢
  have hnb1 : mNb τ1 = mNb τ := by unfold mNb; rw [b0, t0 4 (by decide)]
  have hT1 : qT σ1 τ1 := by
    refine ⟨hI1, hJ1, ?_, fun b hb => ?_, fun p hp => ?_, hage1⟩
    · rw [hf1 1 (by decide), b0, t0 4 (by decide)]; exact hT.2.2.1
    · rw [hnb1] at hb
      unfold mId
      rw [hf1 6 (by decide), hg1 1 (by decide)]; exact hT.2.2.2.1 b hb
    · have := hT.2.2.2.2.1 p hp
      unfold qP mOther at this ⊢
      rw [hf1 12 (by decide), hf1 13 (by decide), hf1 14 (by decide), hf1 9 (by decide), hf1 8 (by decide), hg1 5 (by decide), hg1 6 (by decide), hg1 13 (by decide), hg1 12 (by decide), hg1 10 (by decide), hg1 11 (by decide)]
      exact this
  have hS1 : ∀ p, p < 24 → qS σ1 τ1 p := fun p hp => by
    have := hS p hp
    unfold qS at this ⊢
    rw [hf1 25 (by decide), hf1 26 (by decide), hf1 27 (by decide), hg1 23 (by decide), hg1 24 (by decide), hg1 25 (by decide)]
    exact this
  have c30 : σ1 3 0 = τ1 0 0 := by rw [a3, b0, s30, t0 0 (by decide)]; exact zs.2.1.1
  have c31 : σ1 3 1 = τ1 0 1 := by rw [a3, b0, s31, t0 1 (by decide)]; exact hd
  have c32 : σ1 3 2 = τ1 0 3 := by rw [a3, b0, s32, t03, ht]
  have e01 : ∀ i, ¬ i = 3 → τ1 0 i = τ 0 i := fun i hi => by rw [b0, t0 i hi]
  have zs1 : zS σ1 τ1 := by
    unfold zS at zs ⊢
    rw [hf1 1 (by decide), hf1 0 (by decide), hf1 5 (by decide), c30, e01 5 (by decide), e01 6 (by decide), e01 7 (by decide), e01 0 (by decide), e01 2 (by decide), e01 12 (by decide), e01 11 (by decide), e01 1 (by decide)]
    exact ⟨zs.1, ⟨rfl, zs.2.1.2⟩, zs.2.2⟩
  have zu1 : zU σ1 τ1 := zu.of hf1 hg1 (by decide) (by decide)
  have zw1 : zW σ1 τ1 := zw.of hf1 hg1 (by decide) (by decide) (e01 5 (by decide))
  have zh1 : zH σ1 τ1 := zh.of hf1 hg1 (by decide) (by decide)
  have zv1 : zV σ1 τ1 := zv.of hf1 hg1 (by decide) (by decide)
  have ze1 : zE σ1 τ1 := ze.of hf1 hg1 (by decide) (by decide)
  have zb1 : zB τ1 := zb.of hg1 (by decide) (e01 4 (by decide))
  have hN1 : qN σ1 τ1 := fun b hb => by rw [hf1 29 (by decide), hg1 3 (by decide)]; exact hN b hb
  clear hM0 hage hI0 hJ0 a3 b0 hf1 hg1 t0 t03 hf0 hg0 s30 s31 s32 hI1 hJ1 hage1 e01 hnb1 hT hR hS hN ht hd hpre zs zu zw zh zv ze zb hnb
  exact tick_end hT1 hS1 hN1 c31 c32 zs1 zu1 zw1 zh1 zv1 ze1 zb1 hage2
