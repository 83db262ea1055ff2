/-! the answers that change nothing -/
theorem marked_rel {σ τ : jS} {b : Nat} (hT : qT σ τ) (hR : qR σ τ b) (h28 : σ 28 b = τ 2 b) (ht : σ 3 2 = τ 0 3) (hb : b < mNb τ) : cMarked σ b = mMarked τ b := by
  have hnb := hT.2.1.nbl.1
  unfold cMarked mMarked
  rcases hR.2.2 with ⟨e1, e2⟩ | ⟨k, hk, e1, e2, e4⟩
  · have hneg : ¬ (0 : Int32) ≤ mPort τ b := by rw [e1]; decide
    rw [if_pos e2, if_neg hneg, h28, ht]
  · obtain ⟨hge, hix⟩ := port_at e1 (by omega) hk
    have hne : ¬ σ 24 b = -1 := by rw [e2]; exact neg1_ne _ (by omega)
    rw [if_neg hne, if_pos hge, hix, e2, pk_mul, nI_add, nI_clamp (by omega), (hT.2.2.2.2.2 (4 * b + k) (by omega)).2.2.2.2.2.2.2.1]
    obtain ⟨y, hy, ey⟩ := hT.2.1.mk (i := 4 * b + k) (by omega)
    rw [ey]
    rcases (show y = 0 ∨ y = 1 by omega) with rfl | rfl <;> decide
theorem role_ans {σ τ : jS} (h : zR σ τ) {x : Int32} (hb : mIsPlace τ x = true) : σ 25 x.toNatClampNeg = mRole τ x.toNatClampNeg := by
  have hnb := h.qT.2.1.nbl.1
  obtain ⟨p, rfl, hp⟩ := (mPlace_iff h.qT x).mp hb
  rw [nI_clamp (by omega)]
  exact (h.1.2.2.2.2.2.2 p hp).1
theorem state_ans {σ τ : jS} (h : zR σ τ) {x : Int32} (hb : mIsPlace τ x = true) : σ 27 x.toNatClampNeg = mState τ x.toNatClampNeg := by
  have hnb := h.qT.2.1.nbl.1
  obtain ⟨p, rfl, hp⟩ := (mPlace_iff h.qT x).mp hb
  rw [nI_clamp (by omega)]
  exact (h.1.2.2.2.2.2.2 p hp).2
theorem root_ans {σ τ : jS} (h : zR σ τ) {x : Int32} (hb : mIsBr τ x = true) : σ 22 x.toNatClampNeg * nI 2048 + σ 23 x.toNatClampNeg * nI 2 + bI (cMarked σ x.toNatClampNeg) = mRootOf τ x.toNatClampNeg * nI 2048 + mDist τ x.toNatClampNeg * nI 2 + bI (mMarked τ x.toNatClampNeg) := by
  have hnb := h.qT.2.1.nbl.1
  obtain ⟨b, rfl, hbb⟩ := (mBr_iff h.qT x).mp hb
  rw [nI_clamp (by omega)]
  have hR := h.1.2.1 b hbb
  rw [hR.1, hR.2.1, marked_rel h.qT hR (h.2.2.1.1 b (by omega)) h.1.2.2.2.2.1 hbb]
theorem held_ans {σ τ : jS} (h : zR σ τ) (x w : Int32) : (if cHeldB σ x w = true then σ 18 (6 * x.toNatClampNeg + w.toNatClampNeg) else -1) = (if mHeldB τ x = true then mHeldV τ x.toNatClampNeg w else -1) := by
  have hT := h.qT
  have hnb := hT.2.1.nbl.1
  by_cases hb : mHeldB τ x = true
  · rw [if_pos hb]
    unfold mHeldB at hb
    rw [Bool.and_eq_true] at hb
    obtain ⟨hp, hh⟩ := hb
    have hc : cIsPlace σ x = true := by rw [place_eq hT]; exact hp
    obtain ⟨p, rfl, hp⟩ := (mPlace_iff hT x).mp hp
    have hM := hT.2.2.2.2.2 p (by omega)
    rw [nI_clamp (by omega)] at hh ⊢
    have e : ∀ k, k < 6 → cHeldB σ (nI p) (nI k) = true := fun k hk => by
      unfold cHeldB
      rw [hc, nI_clamp (by omega), hM.1, hh, (cW_iff (by decide) (by decide)).mpr ⟨k, rfl, by omega, by omega⟩]; rfl
    rcases sw6 w with rfl | rfl | rfl | rfl | rfl | rfl | hn
    · rw [if_pos (e 0 (by decide)), nI_clamp (by decide)]; exact hM.2.2.1
    · rw [if_pos (e 1 (by decide)), nI_clamp (by decide)]; exact hM.2.2.2.1
    · rw [if_pos (e 2 (by decide)), nI_clamp (by decide)]; exact hM.2.2.2.2.1
    · rw [if_pos (e 3 (by decide)), nI_clamp (by decide)]; exact hM.2.2.2.2.2.1
    · rw [if_pos (e 4 (by decide)), nI_clamp (by decide)]; exact hM.2.2.2.2.2.2.1
    · rw [if_pos (e 5 (by decide)), nI_clamp (by decide), mHeldV5, bI2 (hT.2.1.mk (by omega))]; exact hM.2.2.2.2.2.2.2.1
    · rw [mHeldVn hn, if_neg (fun hc2 => ?_)]
      unfold cHeldB at hc2
      rw [Bool.and_eq_true] at hc2
      obtain ⟨k, rfl, -, hk⟩ := (cW_iff (by decide) (by decide)).mp hc2.2
      rcases (show k = 0 ∨ k = 1 ∨ k = 2 ∨ k = 3 ∨ k = 4 ∨ k = 5 by omega) with rfl | rfl | rfl | rfl | rfl | rfl
      · exact hn.1 rfl
      · exact hn.2.1 rfl
      · exact hn.2.2.1 rfl
      · exact hn.2.2.2.1 rfl
      · exact hn.2.2.2.2.1 rfl
      · exact hn.2.2.2.2.2 rfl
  · rw [if_neg hb, if_neg (fun hc => hb ?_)]
    unfold cHeldB at hc
    rw [Bool.and_eq_true, Bool.and_eq_true] at hc
    obtain ⟨⟨h1, h2⟩, -⟩ := hc
    unfold mHeldB
    rw [← place_eq hT, h1]
    obtain ⟨p, rfl, hp⟩ := (cPlace_iff hT x).mp h1
    rw [nI_clamp (by omega)] at h2 ⊢
    rw [← (hT.2.2.2.2.2 p (by omega)).1, h2]; rfl
theorem learned_eq {σ τ : jS} (h : zR σ τ) (x n a : Int32) : cLearnedB σ x n a = mLearnedB τ x n a := by
  have hT := h.qT
  have hnb := hT.2.1.nbl
  refine beq_of ?_
  unfold cLearnedB mLearnedB
  rw [hnb.2]
  simp only [Bool.and_eq_true, Bool.not_eq_true', decide_eq_false_iff_not, decide_eq_true_eq]
  rw [cBr_iff hT, mC_iff (by omega), cW_iff (by decide) (by decide), cW_iff (by decide) (by decide), and_assoc (c := a ≤ nI 6), mW_iff (by decide), show (¬ nI 3 < n) = (n ≤ nI 3) from propext Int32.not_lt, and_assoc (c := n ≤ nI 3), mW_iff (by decide)]
  constructor
  · rintro ⟨⟨h1, k, e, -, hk⟩, j, e2, -, hj⟩
    exact ⟨⟨h1, k, e, hk⟩, j, e2, hj⟩
  · rintro ⟨⟨h1, k, e, hk⟩, j, e2, hj⟩
    exact ⟨⟨h1, k, e, by omega, hk⟩, j, e2, by omega, hj⟩
theorem entry_sub {a b : Int32} (h : (a = -1 ∧ b = nI 0) ∨ ∃ k, k < 4 ∧ a = nI k ∧ b = nI (k + 1)) : a = b - nI 1 := by
  rcases h with ⟨rfl, rfl⟩ | ⟨k, hk, rfl, rfl⟩
  · decide
  · rw [pk_sub (by omega), Nat.add_sub_cancel]
theorem learned_ans {σ τ : jS} (h : zR σ τ) {x n a : Int32} (hb : mLearnedB τ x n a = true) : cPort σ x.toNatClampNeg n.toNatClampNeg a.toNatClampNeg = τ 26 ((4 * x.toNatClampNeg + n.toNatClampNeg) * 7 + a.toNatClampNeg) - nI 1 := by
  have hT := h.qT
  have hnb := hT.2.1.nbl.1
  rw [← learned_eq h] at hb
  unfold cLearnedB at hb
  rw [Bool.and_eq_true, Bool.and_eq_true] at hb
  obtain ⟨⟨h1, h2⟩, h3⟩ := hb
  obtain ⟨b, rfl, hb⟩ := (cBr_iff hT x).mp h1
  obtain ⟨k, rfl, -, hk⟩ := (cW_iff (by decide) (by decide)).mp h2
  obtain ⟨j, rfl, -, hj⟩ := (cW_iff (by decide) (by decide)).mp h3
  rw [nI_clamp (n := b) (by omega), nI_clamp (n := k) (by omega), nI_clamp (n := j) (by omega)]
  unfold cPort
  rw [show (4 * b + k) * 7 + j = 28 * b + 7 * k + j by omega]
  exact entry_sub (h.2.2.2.2.2.2.1 _ (by omega)).1
theorem count_rel {σ τ : jS} (h : zR σ τ) {b : Nat} (hb : b < 6) : ∀ n, n ≤ 28 → cCountN σ b n = mCountN τ b n := by
  intro n
  induction n with
  | zero => exact fun _ => rfl
  | succ n ih =>
    intro hn
    unfold cCountN mCountN
    rw [ih (by omega)]
    rcases (h.2.2.2.2.2.2.1 (28 * b + n) (by omega)).1 with ⟨e1, e2⟩ | ⟨k, hk, e1, e2⟩
    · rw [e1, e2, if_pos rfl, if_pos (by decide)]
    · rw [e1, e2, if_neg (neg1_ne k (by omega)), if_neg (by rw [show (0 : Int32) = nI 0 from by decide, nI_leI (by omega) (by decide)]; omega)]
theorem entries_ans {σ τ : jS} (h : zR σ τ) {x : Int32} (hb : mIsBr τ x = true) : nI (cCountN σ x.toNatClampNeg 28) = nI (mCountN τ x.toNatClampNeg 28) := by
  have hnb := h.qT.2.1.nbl.1
  obtain ⟨b, rfl, hb⟩ := (mBr_iff h.qT x).mp hb
  rw [nI_clamp (by omega), count_rel h (by omega) 28 (Nat.le_refl _)]
/-- the state of any place, also of one that no bridge has yet -/
theorem state_all {σ τ : jS} (h : zR σ τ) {p : Nat} (hp : p < 24) : σ 27 p = mState τ p := by
  by_cases hb : p < 4 * mNb τ
  · exact (h.1.2.2.2.2.2.2 p hb).2
  · have hB := h.2.2.2.2.2.2.2.2.2 p (by omega) hp
    rw [st_no hB.1, (h.1.2.2.1 p hp).2.2, hB.2.2]; decide
