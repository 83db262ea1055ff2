/-! the relation between two calls -/
def zS (σ τ : jS) : Prop := (σ 1 1 = τ 0 5 ∧ σ 1 2 = τ 0 6 ∧ σ 1 3 = τ 0 7) ∧ (σ 3 0 = τ 0 0 ∧ σ 0 0 = τ 0 2 ∧ σ 0 1 = τ 0 12 ∧ σ 5 5 = τ 0 11) ∧ okP 13 (τ 0 0) ∧ (∃ d, 0 < d ∧ d < 5 ∧ τ 0 1 = nI d) ∧ (∃ m, 5 ≤ m ∧ m < 41 ∧ τ 0 2 = nI m)
def zU (σ τ : jS) : Prop := (∀ b, b < 6 → σ 28 b = τ 2 b) ∧ (∀ p, p < 24 → σ 21 p = 0)
def mNw (τ : jS) : Nat := (τ 0 5).toNatClampNeg
def zEnd (τ : jS) (w : Nat) (x : Int32) : Prop := τ 5 x.toNatClampNeg = nI 1 ∧ τ 6 x.toNatClampNeg = nI w
def zW (σ τ : jS) : Prop := (∀ w, w < 10 → σ 9 w = τ 13 w ∧ okP 2 (τ 13 w)) ∧ (∀ w, w < mNw τ → σ 7 w = τ 10 w ∧ zEnd τ w (τ 10 w) ∧ zEnd τ w (τ 11 w) ∧ ¬ τ 10 w = τ 11 w) ∧
  (∀ p, p < 24 → τ 5 p = nI 1 → ∃ w, w < mNw τ ∧ τ 6 p = nI w ∧ (τ 10 w = nI p ∨ τ 11 w = nI p))
def zH (σ τ : jS) : Prop := ∀ h, h < 6 → σ 10 h = τ 14 h ∧ σ 11 h = τ 15 h
def zV (σ τ : jS) : Prop := ∀ p, p < 24 → σ 15 p = τ 8 p ∧ σ 16 p = τ 9 p ∧ σ 17 p = τ 7 p ∧ (τ 7 p = 0 → τ 9 p = nI 1 <<< (τ 8 p &&& 31))
def zE (σ τ : jS) : Prop := ∀ e, e < 168 → ((σ 31 e = -1 ∧ τ 26 e = nI 0) ∨ ∃ k, k < 4 ∧ σ 31 e = nI k ∧ τ 26 e = nI (k + 1)) ∧ σ 32 e = τ 27 e
def zB (τ : jS) : Prop := (∀ b, b < 6 → okP 2 (τ 3 b)) ∧ (∀ b, mNb τ ≤ b → b < 6 → τ 3 b = 0) ∧ (∀ p, 4 * mNb τ ≤ p → p < 24 → τ 5 p = nI 0 ∧ τ 23 p = 0 ∧ τ 25 p = 0)
def zR (σ τ : jS) : Prop := qL σ τ (4 * mNb τ) ∧ zS σ τ ∧ zU σ τ ∧ zW σ τ ∧ zH σ τ ∧ zV σ τ ∧ zE σ τ ∧ zB τ
theorem zR.qT {σ τ : jS} (h : zR σ τ) : qT σ τ := h.1.1
theorem mNw_le {τ : jS} (h : mInv τ) : mNw τ < 11 ∧ τ 0 5 = nI (mNw τ) := h.nw.cl (by decide)
/-! ranges on both sides -/
theorem cW_iff {x : Int32} {a b : Nat} (ha : a < 2 ^ 31) (hb : b < 2 ^ 31) : cWithin x (nI a) (nI b) = true ↔ ∃ k, x = nI k ∧ a ≤ k ∧ k ≤ b := by
  simp only [cWithin, Bool.and_eq_true, decide_eq_true_eq]
  constructor
  · rintro ⟨h0, h1⟩
    have hx : ¬ x < 0 := Int32.not_lt.mpr (Int32.le_trans (nI_pos' ha) h0)
    obtain ⟨k, hk, rfl⟩ := nI_of hx
    exact ⟨k, rfl, (nI_leI ha hk).mp h0, (nI_leI hk hb).mp h1⟩
  · rintro ⟨k, rfl, h0, h1⟩
    exact ⟨nI_le h0 (by omega), nI_le h1 hb⟩
theorem cC_iff {x : Int32} {n : Nat} (hn : n < 2 ^ 30) : cWithin x (nI 0) (nI n - nI 1) = true ↔ ∃ k, x = nI k ∧ k < n := by
  constructor
  · intro h
    obtain ⟨k, e, hk⟩ := cWithin_in (y := nI n) (m := n) ⟨n, by omega, rfl⟩ hn h
    rw [nI_clamp (by omega)] at hk
    exact ⟨k, e, hk⟩
  · rintro ⟨k, rfl, hk⟩
    rw [cWithin_nI (by omega) hn]; exact decide_eq_true hk
theorem mC_iff {x : Int32} {n : Nat} (hn : n < 2 ^ 31) : (¬ x < 0 ∧ ¬ nI n ≤ x) ↔ ∃ k, x = nI k ∧ k < n := by
  constructor
  · rintro ⟨h0, h1⟩
    obtain ⟨k, hk, rfl⟩ := nI_of h0
    exact ⟨k, rfl, by rw [nI_leI hn hk] at h1; omega⟩
  · rintro ⟨k, rfl, hk⟩
    exact ⟨nI_pos (by omega), by rw [nI_leI hn (by omega)]; omega⟩
theorem mW_iff {x : Int32} {n : Nat} (hn : n < 2 ^ 31) : (¬ x < 0 ∧ x ≤ nI n) ↔ ∃ k, x = nI k ∧ k ≤ n := by
  constructor
  · rintro ⟨h0, h1⟩
    obtain ⟨k, hk, rfl⟩ := nI_of h0
    exact ⟨k, rfl, by rw [nI_leI hk hn] at h1; omega⟩
  · rintro ⟨k, rfl, hk⟩
    exact ⟨nI_pos (by omega), nI_le hk hn⟩
theorem cPlace_iff {σ τ : jS} (h : qT σ τ) (x : Int32) : cIsPlace σ x = true ↔ ∃ p, x = nI p ∧ p < 4 * mNb τ := by
  have hnb := h.2.1.nbl
  unfold cIsPlace
  rw [h.2.2.1, hnb.2, pk_mul]
  exact cC_iff (by omega)
theorem mPlace_iff {σ τ : jS} (h : qT σ τ) (x : Int32) : mIsPlace τ x = true ↔ ∃ p, x = nI p ∧ p < 4 * mNb τ := by
  have hnb := h.2.1.nbl
  unfold mIsPlace
  rw [hnb.2, pk_mul]
  simp only [Bool.and_eq_true, Bool.not_eq_true', decide_eq_false_iff_not]
  exact mC_iff (by omega)
theorem cBr_iff {σ τ : jS} (h : qT σ τ) (x : Int32) : cIsBridge σ x = true ↔ ∃ p, x = nI p ∧ p < mNb τ := by
  have hnb := h.2.1.nbl
  unfold cIsBridge
  rw [h.2.2.1, hnb.2]
  exact cC_iff (by omega)
theorem mBr_iff {σ τ : jS} (h : qT σ τ) (x : Int32) : mIsBr τ x = true ↔ ∃ p, x = nI p ∧ p < mNb τ := by
  have hnb := h.2.1.nbl
  unfold mIsBr
  rw [hnb.2, ← mC_iff (x := x) (n := mNb τ) (by omega)]
  simp only [Bool.and_eq_true, Bool.not_eq_true', decide_eq_false_iff_not, decide_eq_true_eq, Int32.not_le]
def mNh (τ : jS) : Nat := (τ 0 6).toNatClampNeg
theorem cHost_iff {σ τ : jS} (h : zR σ τ) (x : Int32) : cIsHost σ x = true ↔ ∃ p, x = nI p ∧ p < mNh τ := by
  have hnh : mNh τ < 7 ∧ τ 0 6 = nI (mNh τ) := h.qT.2.1.nh.cl (by decide)
  unfold cIsHost
  rw [h.2.1.1.2.1, hnh.2]
  exact cC_iff (by omega)
theorem mHost_iff {σ τ : jS} (h : zR σ τ) (x : Int32) : mIsHost τ x = true ↔ ∃ p, x = nI p ∧ p < mNh τ := by
  have hnh : mNh τ < 7 ∧ τ 0 6 = nI (mNh τ) := h.qT.2.1.nh.cl (by decide)
  unfold mIsHost
  rw [hnh.2]
  simp only [Bool.and_eq_true, Bool.not_eq_true', decide_eq_false_iff_not]
  exact mC_iff (by omega)
theorem free_at {σ τ : jS} (h : qT σ τ) {p : Nat} (hp : p < 24) : (σ 12 p = -1 ∧ σ 14 p = -1) ↔ τ 5 p = 0 := by
  have hwi := h.2.1.wi hp
  have hn1 : ¬ τ 6 p = -1 := by
    obtain ⟨x, hx, ex⟩ := hwi
    rw [ex]; exact neg1_ne x (by omega)
  rcases h.2.2.2.2.1 p hp with q | q | q | q
  · rw [q.1, q.2.1, q.2.2.2]; exact ⟨fun _ => by decide, fun _ => ⟨rfl, rfl⟩⟩
  · rw [q.1, q.2.1]; exact ⟨fun e => absurd e.1 hn1, fun e => absurd e (by decide)⟩
  · rw [q.1, q.2.2.2.1]; exact ⟨fun e => absurd e.2 hn1, fun e => absurd e (by decide)⟩
  · rw [q.1, q.2.2.2]; exact ⟨fun e => absurd e.2 (by decide), fun e => absurd e (by decide)⟩
theorem cFree_iff {σ τ : jS} (h : qT σ τ) (x : Int32) : cIsFree σ x = true ↔ ∃ p, x = nI p ∧ p < 4 * mNb τ ∧ τ 5 p = 0 := by
  have hnb := h.2.1.nbl
  unfold cIsFree
  rw [Bool.and_eq_true, Bool.and_eq_true, cPlace_iff h]
  constructor
  · rintro ⟨⟨⟨p, rfl, hp⟩, h1⟩, h2⟩
    rw [nI_clamp (by omega)] at h1 h2
    exact ⟨p, rfl, hp, (free_at h (by omega)).mp ⟨eq_of_beq h1, eq_of_beq h2⟩⟩
  · rintro ⟨p, rfl, hp, h5⟩
    have := (free_at h (p := p) (by omega)).mpr h5
    rw [nI_clamp (by omega), this.1, this.2]
    exact ⟨⟨⟨p, rfl, hp⟩, by decide⟩, by decide⟩
theorem mFree_iff {σ τ : jS} (h : qT σ τ) (x : Int32) : mIsFree τ x = true ↔ ∃ p, x = nI p ∧ p < 4 * mNb τ ∧ τ 5 p = 0 := by
  have hnb := h.2.1.nbl
  unfold mIsFree
  rw [Bool.and_eq_true, mPlace_iff h, decide_eq_true_eq]
  constructor
  · rintro ⟨⟨p, rfl, hp⟩, h1⟩
    rw [nI_clamp (by omega)] at h1
    exact ⟨p, rfl, hp, h1⟩
  · rintro ⟨p, rfl, hp, h5⟩
    exact ⟨⟨p, rfl, hp⟩, by rw [nI_clamp (by omega)]; exact h5⟩
theorem beq_of {a b : Bool} (h : a = true ↔ b = true) : a = b := Bool.eq_iff_iff.mpr h
theorem place_eq {σ τ : jS} (h : qT σ τ) (x : Int32) : cIsPlace σ x = mIsPlace τ x := beq_of ((cPlace_iff h x).trans (mPlace_iff h x).symm)
theorem br_eq {σ τ : jS} (h : qT σ τ) (x : Int32) : cIsBridge σ x = mIsBr τ x := beq_of ((cBr_iff h x).trans (mBr_iff h x).symm)
theorem host_eq {σ τ : jS} (h : zR σ τ) (x : Int32) : cIsHost σ x = mIsHost τ x := beq_of ((cHost_iff h x).trans (mHost_iff h x).symm)
theorem free_eq {σ τ : jS} (h : qT σ τ) (x : Int32) : cIsFree σ x = mIsFree τ x := beq_of ((cFree_iff h x).trans (mFree_iff h x).symm)
theorem op_if {RR : jS → jS → Prop} {c m : Bool} {A A' N : Int32} {s s' σ τ : jS} (h : c = m) (ht : m = true → A = A' ∧ RR s s') (hR : RR σ τ) : (if c = true then A else N) = (if m = true then A' else N) ∧ RR (if c = true then s else σ) (if m = true then s' else τ) := by
  subst h
  by_cases e : c = true
  · rw [if_pos e, if_pos e, if_pos e, if_pos e]; exact ht e
  · rw [if_neg e, if_neg e, if_neg e, if_neg e]; exact ⟨rfl, hR⟩
theorem op_bi {RR : jS → jS → Prop} {c m : Bool} {s s' σ τ : jS} (h : c = m) (ht : m = true → RR s s') (hR : RR σ τ) : bI c = bI m ∧ RR (if c = true then s else σ) (if m = true then s' else τ) := by
  subst h
  refine ⟨rfl, ?_⟩
  by_cases e : c = true
  · rw [if_pos e, if_pos e]; exact ht e
  · rw [if_neg e, if_neg e]; exact hR
theorem op_rd {RR : jS → jS → Prop} {c m : Bool} {A A' N : Int32} {σ τ : jS} (h : c = m) (ht : m = true → A = A') (hR : RR σ τ) : (if c = true then A else N) = (if m = true then A' else N) ∧ RR σ τ := by
  subst h
  refine ⟨?_, hR⟩
  by_cases e : c = true
  · rw [if_pos e, if_pos e]; exact ht e
  · rw [if_neg e, if_neg e]
/-! frames of the settling; what stays -/
theorem cSettle_fr (σ : jS) : fr [22, 23, 24, 25, 26, 27, 29] σ (cSettle σ) := ((cRoots_fr σ).wk (by decide)).tr ((fr.n cSettle1_fr _ _).wk (by decide))
theorem mLook_fr (τ : jS) (nt : Bool) : fr [3, 23, 24, 25] τ (mLook τ nt) := fr.n (mLook1_fr nt) _ _
theorem mLook1_zB {τ : jS} {nt : Bool} {n : Nat} (h : zB τ) (hn : n < 4 * mNb τ) : zB (mLook1 nt n τ) := by
  have hf := mLook1_fr nt n τ
  have hnb : mNb (mLook1 nt n τ) = mNb τ := by unfold mNb; rw [hf 0 (by decide)]
  refine ⟨fun b hb => ?_, fun b hb hb6 => ?_, fun p hp hp24 => ?_⟩
  · rw [mlk_3]
    split
    · exact ⟨1, by decide, rfl⟩
    · exact h.1 b hb
  · rw [hnb] at hb
    rw [mlk_3, if_neg (fun q => by have := q.2; omega)]
    exact h.2.1 b hb hb6
  · rw [hnb] at hp
    rw [mlk_23, mlk_25, if_neg (by omega), if_neg (by omega), hf 5 (by decide)]
    exact h.2.2 p hp hp24
theorem mLook_zB {τ : jS} (nt : Bool) (h : zB τ) : zB (mLook τ nt) := by
  have key : ∀ n, n ≤ 4 * mNb τ → zB (forN (mLook1 nt) τ n) ∧ forN (mLook1 nt) τ n 0 = τ 0 := by
    intro n
    induction n with
    | zero => exact fun _ => ⟨h, rfl⟩
    | succ n ih =>
      intro hn
      obtain ⟨a, b⟩ := ih (by omega)
      have hnb : mNb (forN (mLook1 nt) τ n) = mNb τ := by unfold mNb; rw [b]
      exact ⟨mLook1_zB a (by rw [hnb]; omega), (mLook1_fr nt n _ 0 (by decide)).trans b⟩
  exact (key _ (Nat.le_refl _)).1
/-- a state that settles is related as soon as the rest is -/
theorem fin_rel {σ τ : jS} {nt : Bool} (hL : qL (cSettle σ) (mLook τ nt) (4 * mNb τ)) (h1 : zS σ τ) (h2 : zU σ τ) (h3 : zW σ τ) (h4 : zH σ τ) (h5 : zV σ τ) (h6 : zE σ τ) (h7 : zB τ) : zR (cSettle σ) (mLook τ nt) := by
  have hc := cSettle_fr σ
  have hm := mLook_fr τ nt
  have hnb : mNb (mLook τ nt) = mNb τ := by unfold mNb; rw [hm 0 (by decide)]
  refine ⟨by rw [hnb]; exact hL, ?_, ?_, ?_, ?_, ?_, ?_, mLook_zB nt h7⟩
  · unfold zS at h1 ⊢
    rw [hc 0 (by decide), hc 1 (by decide), hc 3 (by decide), hc 5 (by decide), hm 0 (by decide)]; exact h1
  · unfold zU at h2 ⊢
    rw [hc 28 (by decide), hc 21 (by decide), hm 2 (by decide)]; exact h2
  · unfold zW zEnd mNw at h3 ⊢
    rw [hc 9 (by decide), hc 7 (by decide), hm 0 (by decide), hm 5 (by decide), hm 6 (by decide), hm 10 (by decide), hm 11 (by decide), hm 13 (by decide)]; exact h3
  · unfold zH at h4 ⊢
    rw [hc 10 (by decide), hc 11 (by decide), hm 14 (by decide), hm 15 (by decide)]; exact h4
  · unfold zV at h5 ⊢
    rw [hc 15 (by decide), hc 16 (by decide), hc 17 (by decide), hm 7 (by decide), hm 8 (by decide), hm 9 (by decide)]; exact h5
  · unfold zE at h6 ⊢
    rw [hc 31 (by decide), hc 32 (by decide), hm 26 (by decide), hm 27 (by decide)]; exact h6
