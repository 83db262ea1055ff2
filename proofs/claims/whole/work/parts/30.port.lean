/-! ranks and keys order alike -/
theorem cRank_n {r c s p : Nat} (hr : r < 64) (hc : c < 2 ^ 20) (hs : s < 64) (hp : p < 4) : cRank (nI r).toInt64 (nI c).toInt64 (nI s).toInt64 (nI p).toInt64 = lN (((r * 2 ^ 20 + c) * 2 ^ 6 + s) * 2 ^ 2 + p) := by
  unfold cRank
  rw [nI_l (n := r) (by omega), nI_l (n := c) (by omega), nI_l (n := s) (by omega), nI_l (n := p) (by omega), wb_shl _ (by decide), g_or (k := 20) rfl hc (by omega), wb_shl _ (by decide), g_or (k := 6) rfl (by omega) (by omega), wb_shl _ (by decide), g_or (k := 2) rfl (by omega) (by omega)]
theorem mKey_n {r c s p : Nat} (hr : r < 64) (hc : c < 2 ^ 20) (hs : s < 64) (hp : p < 4) : mKey (nI r) (nI c) (nI s) (nI p) = lN (((r * 1048576 + c) * 64 + s) * 64 + p) := by
  unfold mKey
  rw [nI_l (n := r) (by omega), nI_l (n := c) (by omega), nI_l (n := s) (by omega), nI_l (n := p) (by omega), show (1048576 : Int64) = lN 1048576 from rfl, show (64 : Int64) = lN 64 from rfl, lN_mul, lN_add, lN_mul, lN_add, lN_mul, lN_add]
theorem rank_le {r c s p r' c' s' p' : Nat} (hr : r < 64) (hc : c < 2 ^ 20) (hs : s < 64) (hp : p < 4) (hr' : r' < 64) (hc' : c' < 2 ^ 20) (hs' : s' < 64) (hp' : p' < 4) :
    cRank (nI r).toInt64 (nI c).toInt64 (nI s).toInt64 (nI p).toInt64 ≤ cRank (nI r').toInt64 (nI c').toInt64 (nI s').toInt64 (nI p').toInt64 ↔ mKey (nI r) (nI c) (nI s) (nI p) ≤ mKey (nI r') (nI c') (nI s') (nI p') := by
  rw [cRank_n hr hc hs hp, cRank_n hr' hc' hs' hp', mKey_n hr hc hs hp, mKey_n hr' hc' hs' hp', pk_lLE (by omega) (by omega), pk_lLE (by omega) (by omega)]
  omega
/-! the relation of the tree's base -/
/-- what is plugged to a place -/
def qP (σ τ : jS) (p : Nat) : Prop :=
  (τ 5 p = nI 0 ∧ σ 12 p = -1 ∧ σ 13 p = -1 ∧ σ 14 p = -1) ∨
  (τ 5 p = nI 1 ∧ σ 12 p = τ 6 p ∧ σ 13 p = mOther τ p ∧ σ 14 p = -1 ∧ σ 9 (τ 6 p).toNatClampNeg = τ 13 (τ 6 p).toNatClampNeg ∧ σ 8 (τ 6 p).toNatClampNeg = τ 12 (τ 6 p).toNatClampNeg ∧ okP 10 (τ 12 (τ 6 p).toNatClampNeg)) ∨
  (τ 5 p = nI 2 ∧ σ 12 p = -1 ∧ σ 13 p = -1 ∧ σ 14 p = τ 6 p ∧ okP 6 (τ 6 p)) ∨
  (τ 5 p = nI 3 ∧ σ 12 p = -1 ∧ σ 13 p = -1 ∧ σ 14 p = nI 6)
/-- the message that a place holds -/
def qM (σ τ : jS) (p : Nat) : Prop :=
  σ 19 p = τ 16 p ∧ okP 2 (τ 16 p) ∧ σ 18 (6 * p + 0) = τ 17 p ∧ σ 18 (6 * p + 1) = τ 18 p ∧ σ 18 (6 * p + 2) = τ 19 p ∧ σ 18 (6 * p + 3) = τ 20 p ∧ σ 18 (6 * p + 4) = τ 21 p ∧ σ 18 (6 * p + 5) = τ 22 p ∧
  (¬ τ 16 p = 0 → τ 5 p = nI 1 ∧ τ 13 (τ 6 p).toNatClampNeg = 0 ∧ ∃ r c s k a, τ 17 p = nI r ∧ τ 18 p = nI c ∧ τ 19 p = nI s ∧ τ 20 p = nI k ∧ τ 21 p = nI a ∧ r < 64 ∧ c ≤ 9 * a ∧ s < 64 ∧ k < 4 ∧ a < 13)
def qT (σ τ : jS) : Prop :=
  cInv σ ∧ mInv τ ∧ σ 1 0 = τ 0 4 ∧ (∀ b, b < mNb τ → σ 6 b = mId τ b ∧ okP 8 (τ 1 b)) ∧ (∀ p, p < 24 → qP σ τ p) ∧ (∀ p, p < 24 → qM σ τ p)
theorem neg1_ne (n : Nat) (h : n < 2 ^ 31) : ¬ nI n = -1 := by
  intro e
  have h1 : (nI n).toInt = (-1 : Int32).toInt := by rw [e]
  rw [nI_toInt h] at h1
  have h2 : (-1 : Int32).toInt = -1 := by decide
  omega
theorem nIne {a b : Nat} (h : a ≠ b) (ha : a < 2 ^ 31) (hb : b < 2 ^ 31) : ¬ nI a = nI b := fun e => h ((nI_eq ha hb).mp e)
/-- a place that holds a message: what it offers -/
theorem held_at {σ τ : jS} {p : Nat} (hp : p < 24) (h : qT σ τ) (hh : ¬ τ 16 p = 0) : cWhole σ p = true ∧ ∃ r c s k w, τ 17 p = nI r ∧ τ 18 p = nI c ∧ τ 19 p = nI s ∧ τ 20 p = nI k ∧ τ 12 (τ 6 p).toNatClampNeg = nI w ∧ r < 64 ∧ c ≤ 108 ∧ s < 64 ∧ k < 4 ∧ w < 10 ∧
    cOffCost σ p = nI (c + w) ∧ τ 18 p + τ 12 (τ 6 p).toNatClampNeg = nI (c + w) := by
  obtain ⟨hI, hJ, -, -, hP, hM⟩ := h
  obtain ⟨-, -, -, e1, -, -, -, -, hb⟩ := hM p hp
  obtain ⟨h5, h13, r, c, s, k, a, er, ec, es, ek, -, hr, hc, hs, hk, ha⟩ := hb hh
  rcases hP p hp with q | q | q | q
  · exact absurd (h5.symm.trans q.1) (nIne (by decide) (by decide) (by decide))
  · obtain ⟨-, q12, -, -, q9, q8, ⟨w, hw, ew⟩⟩ := q
    have hwi := hJ.wi hp
    have hn1 : ¬ τ 6 p = -1 := by
      obtain ⟨x, hx, ex⟩ := hwi
      rw [ex]; exact neg1_ne x (by omega)
    refine ⟨?_, r, c, s, k, w, er, ec, es, ek, ew, hr, by omega, hs, hk, hw, ?_, by rw [ec, ew, nI_add]⟩
    · unfold cWhole
      rw [q12, q9, h13]
      simp [hn1]
    · unfold cOffCost
      rw [q12, if_pos hn1, q8, ew, e1, ec, nI_add]
  · exact absurd (h5.symm.trans q.1) (nIne (by decide) (by decide) (by decide))
  · exact absurd (h5.symm.trans q.1) (nIne (by decide) (by decide) (by decide))
theorem offer_iff {σ τ : jS} {b n : Nat} (h : qT σ τ) (hb : b < mNb τ) (hn : n < 4) : cOffering σ (4 * b + n) = true ↔ (¬ τ 16 (4 * b + n) = 0 ∧ τ 17 (4 * b + n) < mId τ b) := by
  have hnb := h.2.1.nbl.1
  have hp : 4 * b + n < 24 := by omega
  have e19 := (h.2.2.2.2.2 _ hp).1
  have e18 := (h.2.2.2.2.2 _ hp).2.2.1
  have e6 := (h.2.2.2.1 b hb).1
  have hd : (4 * b + n) / 4 = b := by omega
  unfold cOffering
  rw [hd, e6, e19, e18]
  by_cases hh : τ 16 (4 * b + n) = 0
  · simp [hh]
  · have hw := (held_at hp h hh).1
    simp [hh, hw, Int32.not_le]
theorem off_le {σ τ : jS} {p q : Nat} (h : qT σ τ) (hp : p < 24) (hq : q < 24) (h1 : ¬ τ 16 p = 0) (h2 : ¬ τ 16 q = 0) : cOffRank σ p ≤ cOffRank σ q ↔ mOffer τ p ≤ mOffer τ q := by
  obtain ⟨-, r, c, s, k, w, er, ec, es, ek, ew, hr, hc, hs, hk, hw, eo, em⟩ := held_at hp h h1
  obtain ⟨-, r', c', s', k', w', er', ec', es', ek', ew', hr', hc', hs', hk', hw', eo', em'⟩ := held_at hq h h2
  obtain ⟨-, -, a0, -, a2, a3, -⟩ := h.2.2.2.2.2 p hp
  obtain ⟨-, -, b0, -, b2, b3, -⟩ := h.2.2.2.2.2 q hq
  unfold cOffRank mOffer
  rw [eo, eo', em, em', a0, a2, a3, b0, b2, b3, er, es, ek, er', es', ek']
  exact rank_le hr (by omega) hs hk hr' (by omega) hs' hk'
/-- the best port, on both sides -/
theorem port_rel {σ τ : jS} {b : Nat} (h : qT σ τ) (hb : b < mNb τ) : ∀ n, n ≤ 4 → ((mPortN τ b n).1 = -1 ∧ cBestN σ b n = -1) ∨ ∃ k, k < n ∧ (mPortN τ b n).1 = nI k ∧ cBestN σ b n = nI (4 * b + k) ∧ (mPortN τ b n).2 = mOffer τ (4 * b + k) ∧ ¬ τ 16 (4 * b + k) = 0 := by
  have hnb := h.2.1.nbl.1
  intro n
  induction n with
  | zero => exact fun _ => Or.inl ⟨rfl, rfl⟩
  | succ n ih =>
    intro hn
    have ih := ih (by omega)
    have hof := offer_iff h hb (n := n) (by omega)
    unfold mPortN cBestN
    by_cases h1 : τ 16 (4 * b + n) = 0
    · rw [if_pos h1, if_neg (fun e => (hof.mp e).1 h1)]
      exact ih.imp id (fun ⟨k, hk, e⟩ => ⟨k, by omega, e⟩)
    · rw [if_neg h1]
      by_cases h2 : τ 17 (4 * b + n) < mId τ b
      · rw [if_pos h2, if_pos (hof.mpr ⟨h1, h2⟩)]
        rcases ih with ⟨e1, e2⟩ | ⟨k, hk, e1, e2, e3, e4⟩
        · rw [e1, e2, if_pos (by decide), if_pos rfl]
          exact Or.inr ⟨n, by omega, rfl, rfl, rfl, h1⟩
        · rw [e1, e2, e3, if_neg (nI_pos (by omega)), if_neg (neg1_ne _ (by omega)), nI_clamp (by omega)]
          have hcmp := off_le h (p := 4 * b + k) (q := 4 * b + n) (by omega) (by omega) e4 h1
          by_cases h3 : mOffer τ (4 * b + k) ≤ mOffer τ (4 * b + n)
          · rw [if_pos h3, if_pos (hcmp.mpr h3)]
            exact Or.inr ⟨k, by omega, e1, rfl, e3, e4⟩
          · rw [if_neg h3, if_neg (fun e => h3 (hcmp.mp e))]
            exact Or.inr ⟨n, by omega, rfl, rfl, rfl, h1⟩
      · rw [if_neg h2, if_neg (fun e => h2 (hof.mp e).2)]
        exact ih.imp id (fun ⟨k, hk, e⟩ => ⟨k, by omega, e⟩)
