/-! the messages age -/
def qA (τ : jS) (p : Nat) : Prop := ¬ τ 16 p = 0 → ∃ c a, τ 18 p = nI c ∧ τ 21 p = nI a ∧ c + 9 ≤ 9 * a ∧ a < 13
theorem cAge1_on {σ : jS} {n : Nat} (h : ¬ σ 19 n = 0) : cAge1 n σ = sU (sU σ 18 (6 * n + 4) (σ 18 (6 * n + 4) + nI 1)) 19 n (bI (!decide (σ 3 0 ≤ σ 18 (6 * n + 4) + nI 1))) := by
  unfold cAge1
  rw [if_neg h, sU_eq, if_pos rfl]
theorem mAge1_on {τ : jS} {n : Nat} (h : ¬ τ 16 n = 0) : mAge1 n τ = sU (sU τ 21 n (τ 21 n + nI 1)) 16 n (bI (!decide (τ 0 0 ≤ τ 21 n + nI 1))) := by
  unfold mAge1
  rw [if_neg h, sU_eq, if_pos rfl]
theorem age_step {σ τ : jS} {n : Nat} (hn : n < 24) (hl : σ 3 0 = τ 0 0) (h13 : okP 13 (τ 0 0)) (hM : ∀ p, p < 24 → qM σ τ p) :
    (∀ p, p < 24 → qM (cAge1 n σ) (mAge1 n τ) p) ∧ qA (mAge1 n τ) n ∧ (∀ p, ¬ p = n → qA τ p → qA (mAge1 n τ) p) := by
  have hMn := hM n hn
  by_cases h0 : τ 16 n = 0
  · have e1 : cAge1 n σ = σ := if_pos (by rw [hMn.1]; exact h0)
    have e2 : mAge1 n τ = τ := if_pos h0
    rw [e1, e2]
    exact ⟨hM, fun hh => absurd h0 hh, fun _ _ h => h⟩
  · have h0' : ¬ σ 19 n = 0 := by rw [hMn.1]; exact h0
    obtain ⟨m1, m2, m3, m4, m5, m6, m7, m8, hb⟩ := hMn
    obtain ⟨b5, b13, r, c, s, k, a, er, ec, es, ek, ea, hr, hc, hs, hk, ha⟩ := hb h0
    obtain ⟨L, hL, eL⟩ := h13
    have eA : τ 21 n + nI 1 = nI (a + 1) := by rw [ea, nI_add]
    have eA' : σ 18 (6 * n + 4) + nI 1 = nI (a + 1) := by rw [m7, eA]
    rw [cAge1_on h0', mAge1_on h0, eA, eA', hl]
    have e18 : ∀ v j, sU (sU σ 18 (6 * n + 4) (nI (a + 1))) 19 n v 18 j = if j = 6 * n + 4 then nI (a + 1) else σ 18 j := fun v j => by
      rw [sU_ne (k := 19) (j := 18) _ _ _ (by decide), sU_eq]
    have e19 : ∀ v j, sU (sU σ 18 (6 * n + 4) (nI (a + 1))) 19 n v 19 j = if j = n then v else σ 19 j := fun v j => by
      rw [sU_eq, sU_ne (k := 18) (j := 19) _ _ _ (by decide)]
    have f21 : ∀ v j, sU (sU τ 21 n (nI (a + 1))) 16 n v 21 j = if j = n then nI (a + 1) else τ 21 j := fun v j => by
      rw [sU_ne (k := 16) (j := 21) _ _ _ (by decide), sU_eq]
    have f16 : ∀ v j, sU (sU τ 21 n (nI (a + 1))) 16 n v 16 j = if j = n then v else τ 16 j := fun v j => by
      rw [sU_eq, sU_ne (k := 21) (j := 16) _ _ _ (by decide)]
    have hg : ∀ v, fr [21, 16] τ (sU (sU τ 21 n (nI (a + 1))) 16 n v) := fun v => (fr.rf.u (by decide) _ _).u (by decide) _ _
    have hbound : ¬ bI (!decide (τ 0 0 ≤ nI (a + 1))) = 0 → a + 1 < 13 := fun q => by
      refine Nat.lt_of_not_le (fun hge => q ?_)
      have : τ 0 0 ≤ nI (a + 1) := by rw [eL]; exact nI_le (by omega) (by omega)
      rw [decide_eq_true this]; rfl
    refine ⟨fun p hp => ?_, ?_, fun p hp hq => ?_⟩
    · have hMp := hM p hp
      unfold qM at hMp ⊢
      rw [e19, f16, f21, e18, e18, e18, e18, e18, e18, hg _ 5 (by decide), hg _ 6 (by decide), hg _ 13 (by decide), hg _ 17 (by decide), hg _ 18 (by decide), hg _ 19 (by decide), hg _ 20 (by decide), hg _ 22 (by decide)]
      rw [if_neg (show ¬ 6 * p + 0 = 6 * n + 4 by omega), if_neg (show ¬ 6 * p + 1 = 6 * n + 4 by omega), if_neg (show ¬ 6 * p + 2 = 6 * n + 4 by omega), if_neg (show ¬ 6 * p + 3 = 6 * n + 4 by omega), if_neg (show ¬ 6 * p + 5 = 6 * n + 4 by omega)]
      by_cases e : p = n
      · subst e
        rw [if_pos rfl, if_pos rfl, if_pos rfl, if_pos rfl]
        exact ⟨rfl, okP_bI _, m3, m4, m5, m6, rfl, m8, fun q => ⟨b5, b13, r, c, s, k, a + 1, er, ec, es, ek, rfl, hr, by omega, hs, hk, hbound q⟩⟩
      · rw [if_neg e, if_neg e, if_neg (show ¬ 6 * p + 4 = 6 * n + 4 by omega), if_neg e]
        exact hMp
    · unfold qA
      rw [f16, if_pos rfl, f21, if_pos rfl, hg _ 18 (by decide)]
      exact fun q => ⟨c, a + 1, ec, rfl, by omega, hbound q⟩
    · unfold qA at hq ⊢
      rw [f16, if_neg hp, f21, if_neg hp, hg _ 18 (by decide)]
      exact hq
theorem age_rel {σ τ : jS} (hl : σ 3 0 = τ 0 0) (h13 : okP 13 (τ 0 0)) (hM : ∀ p, p < 24 → qM σ τ p) : ∀ n, n ≤ 24 → (∀ p, p < 24 → qM (forN cAge1 σ n) (forN mAge1 τ n) p) ∧ ∀ p, p < n → qA (forN mAge1 τ n) p := by
  intro n
  induction n with
  | zero => exact fun _ => ⟨hM, fun p hp => absurd hp (Nat.not_lt_zero _)⟩
  | succ n ih =>
    intro hn
    obtain ⟨a, b⟩ := ih (by omega)
    have hf := fr.n cAge1_fr σ n
    have hg := fr.n mAge1_fr τ n
    obtain ⟨c1, c2, c3⟩ := age_step (n := n) (by omega) (by rw [hf 3 (by decide), hg 0 (by decide)]; exact hl) (by rw [hg 0 (by decide)]; exact h13) a
    refine ⟨c1, fun p hp => ?_⟩
    by_cases e : p = n
    · subst e; exact c2
    · exact c3 p e (b p (by omega))
/-! the notices pass -/
theorem nar_bI {x : Int32} (h : okP 2 x) : vp_nar .boolean x = x := nar2 h
theorem cPassA_29 (b : Nat) (σ : jS) (j : Nat) : cPassA b σ 29 j = if j = b then nI 0 else σ 29 j := by
  unfold cPassA
  rw [sU_eq, sU_ne (k := 30) (j := 29) _ _ _ (by decide)]
theorem cPassA_30 (b : Nat) (σ : jS) (j : Nat) : cPassA b σ 30 j = if j = b then vp_nar .boolean (σ 29 b) else σ 30 j := by
  unfold cPassA
  rw [sU_ne (k := 29) (j := 30) _ _ _ (by decide), sU_eq]
theorem mClr_4 (b : Nat) (σ : jS) (j : Nat) : mClr b σ 4 j = if j = b then nI 0 else σ 4 j := sU_eq _ _ _ _ _
theorem mCpy_3 (b : Nat) (σ : jS) (j : Nat) : mCpy b σ 3 j = if j = b then vp_nar .boolean (σ 4 b) else σ 3 j := sU_eq _ _ _ _ _
theorem passA_29 (σ : jS) : ∀ n j, forN cPassA σ n 29 j = if j < n then nI 0 else σ 29 j := by
  intro n
  induction n with
  | zero => exact fun j => (if_neg (Nat.not_lt_zero _)).symm
  | succ n ih =>
    intro j
    show cPassA n (forN cPassA σ n) 29 j = _
    rw [cPassA_29, ih]
    by_cases e : j = n
    · rw [if_pos e, if_pos (by omega)]
    · by_cases e2 : j < n
      · rw [if_neg e, if_pos e2, if_pos (by omega)]
      · rw [if_neg e, if_neg e2, if_neg (by omega)]
theorem passA_30 (σ : jS) : ∀ n j, j < n → forN cPassA σ n 30 j = vp_nar .boolean (σ 29 j) := by
  intro n
  induction n with
  | zero => exact fun j h => absurd h (Nat.not_lt_zero _)
  | succ n ih =>
    intro j hj
    show cPassA n (forN cPassA σ n) 30 j = _
    rw [cPassA_30]
    by_cases e : j = n
    · rw [if_pos e, passA_29, if_neg (by omega), e]
    · rw [if_neg e]; exact ih j (by omega)
theorem clr_4 (τ : jS) : ∀ n j, forN mClr τ n 4 j = if j < n then nI 0 else τ 4 j := by
  intro n
  induction n with
  | zero => exact fun j => (if_neg (Nat.not_lt_zero _)).symm
  | succ n ih =>
    intro j
    show mClr n (forN mClr τ n) 4 j = _
    rw [mClr_4, ih]
    by_cases e : j = n
    · rw [if_pos e, if_pos (by omega)]
    · by_cases e2 : j < n
      · rw [if_neg e, if_pos e2, if_pos (by omega)]
      · rw [if_neg e, if_neg e2, if_neg (by omega)]
theorem clr_fr4 (τ : jS) (n : Nat) : fr [4] τ (forN mClr τ n) := fr.n (fun i σ => fr.rf.u (by decide) _ _) τ n
theorem cpy_fr3 (τ : jS) (n : Nat) : fr [3] τ (forN mCpy τ n) := fr.n (fun i σ => fr.rf.u (by decide) _ _) τ n
theorem cpy_3 (τ : jS) : ∀ n j, j < n → forN mCpy τ n 3 j = vp_nar .boolean (τ 4 j) := by
  intro n
  induction n with
  | zero => exact fun j h => absurd h (Nat.not_lt_zero _)
  | succ n ih =>
    intro j hj
    show mCpy n (forN mCpy τ n) 3 j = _
    rw [mCpy_3, cpy_fr3 τ n 4 (by decide)]
    by_cases e : j = n
    · rw [if_pos e, e]
    · rw [if_neg e]; exact ih j (by omega)
def pN (σ τ s t : jS) (nb : Nat) : Prop := fr [28, 29] σ s ∧ fr [2, 4] τ t ∧ (∀ b, b < 6 → s 29 b = t 4 b ∧ okP 2 (t 4 b)) ∧ (∀ b, nb ≤ b → b < 6 → t 4 b = 0) ∧ (∀ b, b < 6 → s 28 b = t 2 b)
/-- what the loop over the bridges needs of the states before it -/
def pH (σ τ : jS) : Prop := σ 3 0 = τ 0 0 ∧ σ 3 1 = τ 0 1 ∧ σ 3 2 = τ 0 3 ∧ (∀ b, b < mNb τ → (σ 30 b = τ 3 b)) ∧ (∀ b, b < mNb τ → (mPort τ b = -1 ∧ σ 24 b = -1) ∨ ∃ k P, k < 4 ∧ mPort τ b = nI k ∧ σ 24 b = nI (4 * b + k) ∧ σ 13 (4 * b + k) = nI P ∧ mOther τ (4 * b + k) = nI P ∧ P < 4 * mNb τ)
theorem passB_rel {σ τ s t : jS} {b : Nat} (hnb : mNb τ < 7) (hH : pH σ τ) (h : pN σ τ s t (mNb τ)) (hb : b < mNb τ) : pN σ τ (cPassB b s) (mPassB b t) (mNb τ) := by
  obtain ⟨h30, h31, h32, hno, hpo⟩ := hH
  have h' := h
  obtain ⟨hf, hg, h1, h2, h3⟩ := h'
  have hs : mSame τ t := mSame.of_fr hg (by decide)
  unfold cPassB mPassB
  rw [hf 30 (by decide), hno b hb, hg 3 (by decide), mPort_congr hs]
  by_cases h0 : τ 3 b = 0
  · rw [if_pos h0, if_neg (fun q => q h0)]
    exact h
  · rw [if_neg h0, if_pos h0]
    unfold cPassOf
    rw [hf 24 (by decide), hf 13 (by decide), hf 3 (by decide), hg 0 (by decide)]
    have eo : ∀ p, mOther t p = mOther τ p := fun p => by
      unfold mOther
      rw [hg 6 (by decide), hg 10 (by decide), hg 11 (by decide)]
    rcases hpo b hb with ⟨e1, e2⟩ | ⟨k, P, hk, e1, e2, e3, e4, hP⟩
    · have hneg : ¬ (0 : Int32) ≤ mPort τ b := by rw [e1]; decide
      rw [if_neg (fun q => q e2), if_neg hneg, h30, h31, h32]
      refine ⟨hf.u (by decide) _ _, hg.u (by decide) _ _, ?_, ?_, fun j hj => ?_⟩
      · intro j hj
        rw [sU_ne (k := 28) (j := 29) _ _ _ (by decide), sU_ne (k := 2) (j := 4) _ _ _ (by decide)]; exact h1 j hj
      · intro j hj hj6
        rw [sU_ne (k := 2) (j := 4) _ _ _ (by decide)]; exact h2 j hj hj6
      · rw [sU_eq, sU_eq]
        by_cases e : j = b
        · rw [if_pos e, if_pos e]
        · rw [if_neg e, if_neg e]; exact h3 j hj
    · have hge : (0 : Int32) ≤ mPort τ b := by rw [e1]; exact nI_pos' (by omega)
      have hne : ¬ σ 24 b = -1 := by rw [e2]; exact neg1_ne _ (by omega)
      have hix : (nI P / nI 4).toNatClampNeg = P / 4 := by rw [pk_div (by omega) (by decide) (by decide), nI_clamp (by omega)]
      rw [if_pos hne, if_pos hge, e2, nI_clamp (by omega), e3, if_neg (neg1_ne P (by omega)), eo, e1, nI_clamp (n := k) (by omega), e4, hix]
      refine ⟨hf.u (by decide) _ _, hg.u (by decide) _ _, fun j hj => ?_, fun j hj hj6 => ?_, fun j hj => ?_⟩
      · rw [sU_eq, sU_eq]
        by_cases e : j = P / 4
        · rw [if_pos e, if_pos e]; exact ⟨rfl, 1, by decide, rfl⟩
        · rw [if_neg e, if_neg e]; exact h1 j hj
      · rw [sU_eq, if_neg (by omega)]; exact h2 j hj hj6
      · rw [sU_ne (k := 29) (j := 28) _ _ _ (by decide), sU_ne (k := 4) (j := 2) _ _ _ (by decide)]; exact h3 j hj
theorem passN_rel {σ τ s t : jS} (hnb : mNb τ < 7) (hH : pH σ τ) (h : pN σ τ s t (mNb τ)) : ∀ n, n ≤ mNb τ → pN σ τ (forN cPassB s n) (forN mPassB t n) (mNb τ) := by
  intro n
  induction n with
  | zero => exact fun _ => h
  | succ n ih => exact fun hn => passB_rel hnb hH (ih (by omega)) (by omega)
