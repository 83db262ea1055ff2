/-! what was sent is held -/
theorem cTake1_on {s : jS} {p : Nat} (h : ¬ s 21 p = 0) : cTake1 p s = sU (sU (sF s 18 (va_cpy (s 20) (s 18) (6 * p) (6 * p) 6)) 19 p (nI 1)) 21 p (nI 0) := if_neg h
theorem mHold1_on {t : jS} {p : Nat} (h : ¬ t 16 (24 + p) = 0) : mHold1 p t = mHold t p (24 + p) := if_neg h
def hI (σ τ s t : jS) (n : Nat) : Prop := fr [18, 19, 20, 21] σ s ∧ fr [16, 17, 18, 19, 20, 21, 22] τ t ∧ (∀ p, p < 24 → qM s t p) ∧ (∀ p, n ≤ p → p < 24 → sR s t p) ∧ (∀ p, p < n → s 21 p = 0)
theorem take_step {σ τ s t : jS} {n : Nat} (hn : n < 24) (h : hI σ τ s t n) : hI σ τ (cTake1 n s) (mHold1 n t) (n + 1) := by
  obtain ⟨hf, hg, hM, hS, hz⟩ := h
  have hSn := hS n (Nat.le_refl _) hn
  by_cases h0 : t 16 (24 + n) = 0
  · have e1 : cTake1 n s = s := if_pos (by rw [hSn.1]; exact h0)
    have e2 : mHold1 n t = t := if_pos h0
    rw [e1, e2]
    refine ⟨hf, hg, hM, fun p hp hp24 => hS p (by omega) hp24, fun p hp => ?_⟩
    by_cases e : p = n
    · rw [e, hSn.1]; exact h0
    · exact hz p (by omega)
  · have h0' : ¬ s 21 n = 0 := by rw [hSn.1]; exact h0
    rw [cTake1_on h0', mHold1_on h0]
    obtain ⟨c0, c1, c2, c3, c4, c5, b5, b13, hb⟩ := hSn.2.2 h0
    have e18 : ∀ j, sU (sU (sF s 18 (va_cpy (s 20) (s 18) (6 * n) (6 * n) 6)) 19 n (nI 1)) 21 n (nI 0) 18 j = if 6 * n ≤ j ∧ j < 6 * n + 6 then s 20 (6 * n + (j - 6 * n)) else s 18 j := fun j => by
      rw [sU_ne (k := 21) (j := 18) _ _ _ (by decide), sU_ne (k := 19) (j := 18) _ _ _ (by decide), sF_eq]; rfl
    have e19 : ∀ j, sU (sU (sF s 18 (va_cpy (s 20) (s 18) (6 * n) (6 * n) 6)) 19 n (nI 1)) 21 n (nI 0) 19 j = if j = n then nI 1 else s 19 j := fun j => by
      rw [sU_ne (k := 21) (j := 19) _ _ _ (by decide), sU_eq, sF_ne (k := 18) (j := 19) _ _ (by decide)]
    have e21 : ∀ j, sU (sU (sF s 18 (va_cpy (s 20) (s 18) (6 * n) (6 * n) 6)) 19 n (nI 1)) 21 n (nI 0) 21 j = if j = n then nI 0 else s 21 j := fun j => by
      rw [sU_eq, sU_ne (k := 19) (j := 21) _ _ _ (by decide), sF_ne (k := 18) (j := 21) _ _ (by decide)]
    have hf2 : fr [18, 19, 21] s (sU (sU (sF s 18 (va_cpy (s 20) (s 18) (6 * n) (6 * n) 6)) 19 n (nI 1)) 21 n (nI 0)) := ((fr.rf.f (by decide) _).u (by decide) _ _).u (by decide) _ _
    generalize sU (sU (sF s 18 (va_cpy (s 20) (s 18) (6 * n) (6 * n) 6)) 19 n (nI 1)) 21 n (nI 0) = s' at e18 e19 e21 hf2 ⊢
    have f16 : ∀ j, mHold t n (24 + n) 16 j = if j = n then nI 1 else t 16 j := fun j => by
      unfold mHold
      rw [sU_ne (k := 22) (j := 16) _ _ _ (by decide), sU_ne (k := 21) (j := 16) _ _ _ (by decide), sU_ne (k := 20) (j := 16) _ _ _ (by decide), sU_ne (k := 19) (j := 16) _ _ _ (by decide), sU_ne (k := 18) (j := 16) _ _ _ (by decide), sU_ne (k := 17) (j := 16) _ _ _ (by decide), sU_eq]
    have f17 : ∀ j, mHold t n (24 + n) 17 j = if j = n then t 17 (24 + n) else t 17 j := fun j => by
      unfold mHold
      rw [sU_ne (k := 22) (j := 17) _ _ _ (by decide), sU_ne (k := 21) (j := 17) _ _ _ (by decide), sU_ne (k := 20) (j := 17) _ _ _ (by decide), sU_ne (k := 19) (j := 17) _ _ _ (by decide), sU_ne (k := 18) (j := 17) _ _ _ (by decide), sU_eq, sU_ne (k := 16) (j := 17) _ _ _ (by decide)]
    have f18 : ∀ j, mHold t n (24 + n) 18 j = if j = n then t 18 (24 + n) else t 18 j := fun j => by
      unfold mHold
      rw [sU_ne (k := 22) (j := 18) _ _ _ (by decide), sU_ne (k := 21) (j := 18) _ _ _ (by decide), sU_ne (k := 20) (j := 18) _ _ _ (by decide), sU_ne (k := 19) (j := 18) _ _ _ (by decide), sU_eq, sU_ne (k := 17) (j := 18) _ _ _ (by decide), sU_ne (k := 16) (j := 18) _ _ _ (by decide)]
    have f19 : ∀ j, mHold t n (24 + n) 19 j = if j = n then t 19 (24 + n) else t 19 j := fun j => by
      unfold mHold
      rw [sU_ne (k := 22) (j := 19) _ _ _ (by decide), sU_ne (k := 21) (j := 19) _ _ _ (by decide), sU_ne (k := 20) (j := 19) _ _ _ (by decide), sU_eq, sU_ne (k := 18) (j := 19) _ _ _ (by decide), sU_ne (k := 17) (j := 19) _ _ _ (by decide), sU_ne (k := 16) (j := 19) _ _ _ (by decide)]
    have f20 : ∀ j, mHold t n (24 + n) 20 j = if j = n then t 20 (24 + n) else t 20 j := fun j => by
      unfold mHold
      rw [sU_ne (k := 22) (j := 20) _ _ _ (by decide), sU_ne (k := 21) (j := 20) _ _ _ (by decide), sU_eq, sU_ne (k := 19) (j := 20) _ _ _ (by decide), sU_ne (k := 18) (j := 20) _ _ _ (by decide), sU_ne (k := 17) (j := 20) _ _ _ (by decide), sU_ne (k := 16) (j := 20) _ _ _ (by decide)]
    have f21 : ∀ j, mHold t n (24 + n) 21 j = if j = n then t 21 (24 + n) else t 21 j := fun j => by
      unfold mHold
      rw [sU_ne (k := 22) (j := 21) _ _ _ (by decide), sU_eq, sU_ne (k := 20) (j := 21) _ _ _ (by decide), sU_ne (k := 19) (j := 21) _ _ _ (by decide), sU_ne (k := 18) (j := 21) _ _ _ (by decide), sU_ne (k := 17) (j := 21) _ _ _ (by decide), sU_ne (k := 16) (j := 21) _ _ _ (by decide)]
    have f22 : ∀ j, mHold t n (24 + n) 22 j = if j = n then t 22 (24 + n) else t 22 j := fun j => by
      unfold mHold
      rw [sU_eq, sU_ne (k := 21) (j := 22) _ _ _ (by decide), sU_ne (k := 20) (j := 22) _ _ _ (by decide), sU_ne (k := 19) (j := 22) _ _ _ (by decide), sU_ne (k := 18) (j := 22) _ _ _ (by decide), sU_ne (k := 17) (j := 22) _ _ _ (by decide), sU_ne (k := 16) (j := 22) _ _ _ (by decide)]
    have hg2 := mHold_fr t n (24 + n)
    generalize mHold t n (24 + n) = t' at f16 f17 f18 f19 f20 f21 f22 hg2 ⊢
    refine ⟨hf.tr (hf2.wk (by decide)), hg.tr hg2, fun p hp => ?_, fun p hp hp24 => ?_, fun p hp => ?_⟩
    · unfold qM
      by_cases e : p = n
      · subst e
        rw [e19, f16, f17, f18, f19, f20, f21, f22, if_pos rfl, if_pos rfl, if_pos rfl, if_pos rfl, if_pos rfl, if_pos rfl, if_pos rfl, if_pos rfl, e18, e18, e18, e18, e18, e18, hg2 5 (by decide), hg2 6 (by decide), hg2 13 (by decide)]
        rw [if_pos (by omega), if_pos (by omega), if_pos (by omega), if_pos (by omega), if_pos (by omega), if_pos (by omega)]
        rw [show 6 * p + 0 - 6 * p = 0 by omega, show 6 * p + 1 - 6 * p = 1 by omega, show 6 * p + 2 - 6 * p = 2 by omega, show 6 * p + 3 - 6 * p = 3 by omega, show 6 * p + 4 - 6 * p = 4 by omega, show 6 * p + 5 - 6 * p = 5 by omega]
        exact ⟨rfl, ⟨1, by decide, rfl⟩, c0, c1, c2, c3, c4, c5, fun _ => ⟨b5, b13, hb⟩⟩
      · have hMp := hM p hp
        have ne : ∀ j, j < 6 → s' 18 (6 * p + j) = s 18 (6 * p + j) := fun j hj => by rw [e18, if_neg (by omega)]
        rw [e19, f16, f17, f18, f19, f20, f21, f22, if_neg e, if_neg e, if_neg e, if_neg e, if_neg e, if_neg e, if_neg e, if_neg e, ne 0 (by decide), ne 1 (by decide), ne 2 (by decide), ne 3 (by decide), ne 4 (by decide), ne 5 (by decide), hg2 5 (by decide), hg2 6 (by decide), hg2 13 (by decide)]
        exact hMp
    · have hSp := hS p (by omega) hp24
      unfold sR at hSp ⊢
      have n24 : ¬ 24 + p = n := by omega
      rw [e21, if_neg (by omega), hf2 20 (by decide), f16, f17, f18, f19, f20, f21, f22, if_neg n24, if_neg n24, if_neg n24, if_neg n24, if_neg n24, if_neg n24, if_neg n24, hg2 5 (by decide), hg2 6 (by decide), hg2 13 (by decide)]
      exact hSp
    · rw [e21]
      by_cases e : p = n
      · rw [if_pos e]; decide
      · rw [if_neg e]; exact hz p (by omega)
theorem takeN {σ τ s t : jS} (h : hI σ τ s t 0) : ∀ n, n ≤ 24 → hI σ τ (forN cTake1 s n) (forN mHold1 t n) n := by
  intro n
  induction n with
  | zero => exact fun _ => h
  | succ n ih => exact fun hn => take_step (by omega) (ih (by omega))
theorem sendN {σ τ s t : jS} (hT : qT σ τ) (hR : ∀ b, b < mNb τ → qR σ τ b) (hW : zW σ τ) (hB : zB τ) (hA : ∀ p, p < 24 → qA τ p) (ht : σ 3 2 = τ 0 3) (h28 : ∀ b, b < 6 → σ 28 b = τ 2 b) (h : sI σ τ s t) :
    ∀ n, n ≤ 4 * mNb τ → sI σ τ (forN cSend1 s n) (forN mSend1 t n) := by
  intro n
  induction n with
  | zero => exact fun _ => h
  | succ n ih => exact fun hn => send_step hT hR hW hB hA ht h28 (by omega) (ih (by omega))
theorem clr2_16 (τ : jS) : ∀ n j, forN mClr2 τ n 16 j = if 24 ≤ j ∧ j < 24 + n then nI 0 else τ 16 j := by
  intro n
  induction n with
  | zero => exact fun j => (if_neg (by omega)).symm
  | succ n ih =>
    intro j
    have e1 : forN mClr2 τ (n + 1) 16 j = if j = 24 + n then nI 0 else forN mClr2 τ n 16 j := sU_eq _ 16 (24 + n) _ j
    rw [e1, ih]
    by_cases e : j = 24 + n
    · rw [if_pos e, if_pos (by omega)]
    · by_cases e2 : 24 ≤ j ∧ j < 24 + n
      · rw [if_neg e, if_pos e2, if_pos (by omega)]
      · rw [if_neg e, if_neg e2, if_neg (by omega)]
/-- sending and taking, on both sides -/
theorem sends_rel {σ τ : jS} (hT : qT σ τ) (hR : ∀ b, b < mNb τ → qR σ τ b) (hW : zW σ τ) (hB : zB τ) (hA : ∀ p, p < 24 → qA τ p) (ht : σ 3 2 = τ 0 3) (h28 : ∀ b, b < 6 → σ 28 b = τ 2 b) (h21 : ∀ p, p < 24 → σ 21 p = 0) :
    fr [18, 19, 20, 21] σ (cTake (cSends σ)) ∧ fr [16, 17, 18, 19, 20, 21, 22] τ (mSends τ) ∧ (∀ p, p < 24 → qM (cTake (cSends σ)) (mSends τ) p) ∧ (∀ p, p < 24 → cTake (cSends σ) 21 p = 0) := by
  have hnb := hT.2.1.nbl.1
  have hN := nb_eq hT
  have hg0 : fr [16] τ (forN mClr2 τ 24) := fr.n mClr2_fr τ 24
  have c16 := clr2_16 τ 24
  have hnbt : mNb (forN mClr2 τ 24) = mNb τ := by unfold mNb; rw [hg0 0 (by decide)]
  unfold cTake cSends mSends
  rw [hN]
  generalize forN mClr2 τ 24 = t0 at hg0 c16 hnbt ⊢
  have hlo : loS τ t0 := by
    refine ⟨fun k hk => hg0 k (fun e => hk (by rw [List.mem_singleton.mp e]; decide)), fun k j hj => ?_⟩
    by_cases e : k = 16
    · subst e; rw [c16, if_neg (by omega)]
    · rw [hg0 k (fun q => e (List.mem_singleton.mp q))]
  have h0 : sI σ τ σ t0 := by
    refine ⟨fr.rf, hlo, fun f hf => ?_⟩
    have e : t0 16 (24 + f) = nI 0 := by rw [c16, if_pos (by omega)]
    refine ⟨by rw [e, h21 f hf]; decide, by rw [e]; exact ⟨0, by decide, rfl⟩, fun q => absurd (by rw [e]; decide) q⟩
  have h1 := sendN hT hR hW hB hA ht h28 h0 (4 * mNb τ) (Nat.le_refl _)
  generalize forN cSend1 σ (4 * mNb τ) = s at h1 ⊢
  generalize forN mSend1 t0 (4 * mNb τ) = t at h1 ⊢
  obtain ⟨hf, hl, hs⟩ := h1
  have h2 : hI σ τ s t 0 := by
    refine ⟨hf.wk (by decide), fun k hk => hl.1 k hk, fun p hp => ?_, fun p _ hp => hs p hp, fun p hp => absurd hp (Nat.not_lt_zero _)⟩
    have hMp := hT.2.2.2.2.2 p hp
    unfold qM at hMp ⊢
    rw [hf 19 (by decide), hf 18 (by decide), hl.2 16 p hp, hl.2 17 p hp, hl.2 18 p hp, hl.2 19 p hp, hl.2 20 p hp, hl.2 21 p hp, hl.2 22 p hp, hl.1 5 (by decide), hl.1 6 (by decide), hl.1 13 (by decide)]
    exact hMp
  have h3 := takeN h2 24 (Nat.le_refl _)
  exact ⟨h3.1, h3.2.1, h3.2.2.1, h3.2.2.2.2⟩
