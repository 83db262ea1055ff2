/-! a tick -/
theorem cAge_fr (σ : jS) : fr [18, 19] σ (cAge σ) := fr.n cAge1_fr σ 24
theorem mAge_fr (τ : jS) : fr [16, 21] τ (mAge τ) := fr.n mAge1_fr τ 24
theorem forget_rel {σ τ : jS} (h : zR σ τ) (e : Nat) : zR (sU σ 31 e (-1)) (sU τ 26 e (nI 0)) := by
  have hf : fr [31] σ (sU σ 31 e (-1)) := fr.rf.u (by decide) _ _
  have hg : fr [26] τ (sU τ 26 e (nI 0)) := fr.rf.u (by decide) _ _
  refine ⟨h.1.of (h.qT.1.of_fr hf (by decide)) (h.qT.2.1.of_fr hg (by decide)) (fun k hk => hf k (by revert k; decide)) (fun k hk => hg k (by revert k; decide)) rfl rfl rfl, ?_, h.2.2.1.of hf hg (by decide) (by decide), h.2.2.2.1.of hf hg (by decide) (by decide) rfl, h.2.2.2.2.1.of hf hg (by decide) (by decide), h.2.2.2.2.2.1.of hf hg (by decide) (by decide), fun j hj => ?_, h.2.2.2.2.2.2.2.of hg (by decide) rfl⟩
  · unfold zS
    rw [hf 0 (by decide), hf 1 (by decide), hf 3 (by decide), hf 5 (by decide), hg 0 (by decide)]
    exact h.2.1
  · rw [hf 32 (by decide), hg 27 (by decide), sU_eq, sU_eq]
    have := h.2.2.2.2.2.2.1 j hj
    by_cases q : j = e
    · rw [if_pos q, if_pos q]; exact ⟨Or.inl ⟨rfl, rfl⟩, this.2⟩
    · rw [if_neg q, if_neg q]; exact this
theorem forgetN_rel {σ τ : jS} (h : zR σ τ) {b : Nat} (hb : b < 6) (span : Int32) : ∀ n, n ≤ 28 → zR (forN (cForget1 b (σ 3 2) span) σ n) (forN (mForget1 b span) τ n) := by
  intro n
  induction n with
  | zero => exact fun _ => h
  | succ n ih =>
    intro hn
    have ih := ih (by omega)
    have hg : fr [26] τ (forN (mForget1 b span) τ n) := fr.n (mForget1_fr b span) τ n
    have hE := (ih.2.2.2.2.2.2.1 (28 * b + n) (by omega)).2
    have ht : σ 3 2 = forN (mForget1 b span) τ n 0 3 := by rw [hg 0 (by decide)]; exact h.1.2.2.2.2.1
    show zR (cForget1 b (σ 3 2) span n _) (mForget1 b span n _)
    generalize forN (cForget1 b (σ 3 2) span) σ n = s at ih hE ⊢
    generalize forN (mForget1 b span) τ n = t at ih hE ht ⊢
    unfold cForget1 mForget1
    rw [hE, ht]
    by_cases q : t 0 3 - t 27 (28 * b + n) < span
    · rw [if_pos q, if_pos q]; exact ih
    · rw [if_neg q, if_neg q]; exact forget_rel ih _
theorem most_rel {σ τ : jS} (h : zR σ τ) {b : Nat} (hb : b < mNb τ) : (if cMarked σ b = false then σ 0 0 else σ 3 1) = mMost τ b := by
  have hnb := h.qT.2.1.nbl.1
  have hm := marked_rel h.qT (h.1.2.1 b hb) (h.2.2.1.1 b (by omega)) h.1.2.2.2.2.1 hb
  obtain ⟨d, hd0, hd5, ed⟩ := h.2.1.2.2.2.1
  obtain ⟨m, hm5, hm41, em⟩ := h.2.1.2.2.2.2
  unfold mMost
  rw [hm, h.2.1.2.1.2.1, h.1.2.2.2.2.2.1]
  by_cases q : mMarked τ b = false
  · rw [if_pos q, if_pos q]
  · rw [if_neg q, if_neg q, if_neg (by rw [em, ed, nI_leI (by omega) (by omega)]; omega)]
theorem old_rel {σ τ : jS} (h : zR σ τ) : zR (cOld σ) (mOld τ) := by
  have hnb := h.qT.2.1.nbl.1
  have key : ∀ n, n ≤ mNb τ → zR (forN cOld1 σ n) (forN mOld1 τ n) ∧ mNb (forN mOld1 τ n) = mNb τ := by
    intro n
    induction n with
    | zero => exact fun _ => ⟨h, rfl⟩
    | succ n ih =>
      intro hn
      obtain ⟨a, b⟩ := ih (by omega)
      have hg : fr [26] (forN mOld1 τ n) (forN mOld1 τ (n + 1)) := mOld1_fr n _
      refine ⟨?_, by rw [← b]; unfold mNb; rw [hg 0 (by decide)]⟩
      show zR (cOld1 n _) (mOld1 n _)
      generalize forN cOld1 σ n = s at a ⊢
      generalize forN mOld1 τ n = t at a b ⊢
      unfold cOld1 mOld1 cForget
      rw [most_rel a (by rw [b]; omega)]
      exact forgetN_rel a (by omega) _ 28 (Nat.le_refl _)
  unfold cOld mOld
  rw [nb_eq h.qT]
  exact (key _ (Nat.le_refl _)).1
theorem tick_rel {σ τ : jS} (h : zR σ τ) : zR (cTick1 σ) (mTick τ) := by
  obtain ⟨⟨hT, hR, hS, hN, ht, hd, hpre⟩, zs, zu, zw, zh, zv, ze, zb⟩ := h
  have hnb := hT.2.1.nbl.1
  refine old_rel ?_
  unfold cTick
  -- time
  have hf0 : fr [3] σ (sU σ 3 2 (σ 3 2 + nI 1)) := fr.rf.u (by decide) _ _
  have hg0 : fr [0] τ (sU τ 0 3 (τ 0 3 + nI 1)) := fr.rf.u (by decide) _ _
  have s30 : sU σ 3 2 (σ 3 2 + nI 1) 3 0 = σ 3 0 := rfl
  have s31 : sU σ 3 2 (σ 3 2 + nI 1) 3 1 = σ 3 1 := rfl
  have s32 : sU σ 3 2 (σ 3 2 + nI 1) 3 2 = σ 3 2 + nI 1 := rfl
  have t0 : ∀ i, ¬ i = 3 → sU τ 0 3 (τ 0 3 + nI 1) 0 i = τ 0 i := fun i hi => by rw [sU_eq, if_neg hi]
  have t03 : sU τ 0 3 (τ 0 3 + nI 1) 0 3 = τ 0 3 + nI 1 := rfl
  have hI0 : cInv (sU σ 3 2 (σ 3 2 + nI 1)) := hT.1.of_fr hf0 (by decide)
  have hJ0 : mInv (sU τ 0 3 (τ 0 3 + nI 1)) := hT.2.1.u0 (by decide) (by decide) (by decide) (by decide)
  generalize sU σ 3 2 (σ 3 2 + nI 1) = σ0 at hf0 s30 s31 s32 hI0 ⊢
  generalize sU τ 0 3 (τ 0 3 + nI 1) = τ0 at hg0 t0 t03 hJ0 ⊢
  have hM0 : ∀ p, p < 24 → qM σ0 τ0 p := fun p hp => by
    have := hT.2.2.2.2.2 p hp
    unfold qM at this ⊢
    rw [hf0 18 (by decide), hf0 19 (by decide), hg0 16 (by decide), hg0 17 (by decide), hg0 18 (by decide), hg0 19 (by decide), hg0 20 (by decide), hg0 21 (by decide), hg0 22 (by decide), hg0 5 (by decide), hg0 6 (by decide), hg0 13 (by decide)]
    exact this
  -- age
  have hage := age_rel (σ := σ0) (τ := τ0) (by rw [s30, t0 0 (by decide)]; exact zs.2.1.1) (by rw [t0 0 (by decide)]; exact zs.2.2.1) hM0 24 (Nat.le_refl _)
  have hf1 : fr [3, 18, 19] σ (cAge σ0) := (hf0.wk (by decide)).tr ((cAge_fr σ0).wk (by decide))
  have hg1 : fr [0, 16, 21] τ (mAge τ0) := (hg0.wk (by decide)).tr ((mAge_fr τ0).wk (by decide))
  have a3 : cAge σ0 3 = σ0 3 := cAge_fr σ0 3 (by decide)
  have b0 : mAge τ0 0 = τ0 0 := mAge_fr τ0 0 (by decide)
  have hI1 : cInv (cAge σ0) := hI0.of_fr (cAge_fr σ0) (by decide)
  have hJ1 : mInv (mAge τ0) := mAge_inv hJ0
  have hage1 : ∀ p, p < 24 → qM (cAge σ0) (mAge τ0) p := hage.1
  have hage2 : ∀ p, p < 24 → qA (mAge τ0) p := hage.2
  generalize cAge σ0 = σ1 at hf1 a3 hI1 hage1 ⊢
  unfold mTick
  generalize mAge τ0 = τ1 at hg1 b0 hJ1 hage1 hage2 ⊢
  sorry
