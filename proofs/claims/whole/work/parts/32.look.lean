/-! a place's role and state: the class's settle beside the reference's look -/
def c26 (σ : jS) (p : Nat) : Int32 := if cActive (cRole σ p) = true ∧ cActive (σ 25 p) = false then σ 3 2 else σ 26 p
def cSt (σ : jS) (p : Nat) : Int32 := if cActive (cRole σ p) = true then (if σ 3 1 ≤ σ 3 2 - c26 σ p then (if nI 2 * σ 3 1 ≤ σ 3 2 - c26 σ p then nI 3 else nI 2) else nI 1) else nI 0
theorem look_25 (σ : jS) (p j : Nat) : cLook σ p 25 j = if j = p then cRole σ p else σ 25 j := by
  unfold cLook
  rw [sU_eq]
  split
  · rfl
  · split <;> rfl
theorem look_26 (σ : jS) (p j : Nat) : cLook σ p 26 j = if j = p then c26 σ p else σ 26 j := by
  have e : cLook σ p 26 j = (if cActive (cRole σ p) = true ∧ cActive (σ 25 p) = false then sU σ 26 p (σ 3 2) else σ) 26 j := rfl
  rw [e]
  unfold c26
  split
  · rw [sU_eq]
  · split
    · rename_i h; rw [h]
    · rfl
theorem look_st (σ : jS) (p : Nat) : cState (cLook σ p) p = cSt σ p := by
  have h := cLook_fr σ p
  unfold cState cSt
  rw [look_25, if_pos rfl, look_26, if_pos rfl, h 3 (by decide)]
theorem look_27 (σ : jS) (p : Nat) : cLook σ p 27 = σ 27 := cLook_fr σ p 27 (by decide)
theorem set_eq (σ : jS) (p : Nat) : cSettle1 p σ = if cWorth (σ 27 p) (cSt σ p) = true then sU (sU (cLook σ p) 27 p (cSt σ p)) 29 (p / 4) (nI 1) else sU (cLook σ p) 27 p (cSt σ p) := by
  unfold cSettle1
  rw [look_st, look_27, sU_eq, if_pos rfl]
theorem set_25 (σ : jS) (p j : Nat) : cSettle1 p σ 25 j = if j = p then cRole σ p else σ 25 j := by
  rw [set_eq, ← look_25]
  split <;> rfl
theorem set_26 (σ : jS) (p j : Nat) : cSettle1 p σ 26 j = if j = p then c26 σ p else σ 26 j := by
  rw [set_eq, ← look_26]
  split <;> rfl
theorem set_27 (σ : jS) (p j : Nat) : cSettle1 p σ 27 j = if j = p then cSt σ p else σ 27 j := by
  have e : cSettle1 p σ 27 j = sU (cLook σ p) 27 p (cSt σ p) 27 j := by rw [set_eq]; split <;> rfl
  rw [e, sU_eq, look_27]
theorem set_29 (σ : jS) (p b : Nat) : cSettle1 p σ 29 b = if cWorth (σ 27 p) (cSt σ p) = true ∧ b = p / 4 then nI 1 else σ 29 b := by
  have h29 : cLook σ p 29 = σ 29 := cLook_fr σ p 29 (by decide)
  rw [set_eq]
  by_cases hw : cWorth (σ 27 p) (cSt σ p) = true
  · rw [if_pos hw, sU_eq]
    by_cases hb : b = p / 4
    · rw [if_pos hb, if_pos ⟨hw, hb⟩]
    · rw [if_neg hb, if_neg (fun e => hb e.2)]
      show cLook σ p 29 b = _
      rw [h29]
  · rw [if_neg hw, if_neg (fun e => hw e.1)]
    show cLook σ p 29 b = _
    rw [h29]
-- the reference
def m24 (τ : jS) (p : Nat) : Int32 := if mNow τ p = true then (if ¬ τ 23 p = 0 then τ 24 p else τ 0 3) else τ 24 p
theorem mLk2_23 (τ : jS) (p j : Nat) : mLk2 τ p 23 j = if j = p then bI (mNow τ p) else τ 23 j := by
  have h : mLkA τ p (mNow τ p) 23 = τ 23 := mLkA_fr τ p _ 23 (by decide)
  unfold mLk2
  rw [sU_eq, h]
theorem mLk2_24 (τ : jS) (p j : Nat) : mLk2 τ p 24 j = if j = p then m24 τ p else τ 24 j := by
  have e : mLk2 τ p 24 j = mLkA τ p (mNow τ p) 24 j := rfl
  rw [e]
  unfold mLkA m24
  split
  · split
    · split
      · rename_i h; rw [h]
      · rfl
    · rw [sU_eq]
  · split
    · rename_i h; rw [h]
    · rfl
theorem mLk2_same (τ : jS) (p : Nat) : mSame τ (mLk2 τ p) := mSame.of_fr (mLk2_fr τ p) (by decide)
def mSt (τ : jS) (p : Nat) : Int32 := if mRole τ p = 0 then nI 0 else if ¬ mRole τ p = nI 3 then (if τ 0 1 ≤ τ 0 3 - m24 τ p then (if nI 2 * τ 0 1 ≤ τ 0 3 - m24 τ p then nI 3 else nI 2) else nI 1) else nI 0
theorem mLk2_st (τ : jS) (p : Nat) : mState (mLk2 τ p) p = mSt τ p := by
  unfold mState mSt
  rw [mRole_congr (mLk2_same τ p), mLk2_24, if_pos rfl, mLk2_fr τ p 0 (by decide)]
theorem mlk_eq (nt : Bool) (τ : jS) (p : Nat) : mLook1 nt p τ = sU (mLkB (mLk2 τ p) p nt (mTold (mSt τ p) (τ 25 p))) 25 p (mSt τ p) := by
  unfold mLook1
  rw [mLk2_st, mLk2_fr τ p 25 (by decide)]
theorem mlk_23 (nt : Bool) (τ : jS) (p j : Nat) : mLook1 nt p τ 23 j = if j = p then bI (mNow τ p) else τ 23 j := by
  rw [mlk_eq, ← mLk2_23]
  exact congrFun (mLkB_fr (mLk2 τ p) p nt _ 23 (by decide)) j
theorem mlk_24 (nt : Bool) (τ : jS) (p j : Nat) : mLook1 nt p τ 24 j = if j = p then m24 τ p else τ 24 j := by
  rw [mlk_eq, ← mLk2_24]
  exact congrFun (mLkB_fr (mLk2 τ p) p nt _ 24 (by decide)) j
theorem mlk_25 (nt : Bool) (τ : jS) (p j : Nat) : mLook1 nt p τ 25 j = if j = p then mSt τ p else τ 25 j := by
  have h : mLkB (mLk2 τ p) p nt (mTold (mSt τ p) (τ 25 p)) 25 = τ 25 := (mLkB_fr _ p nt _ 25 (by decide)).trans (mLk2_fr τ p 25 (by decide))
  rw [mlk_eq, sU_eq, h]
theorem mlk_3 (nt : Bool) (τ : jS) (p b : Nat) : mLook1 nt p τ 3 b = if (nt = true ∧ mTold (mSt τ p) (τ 25 p) = true) ∧ b = p / 4 then nI 1 else τ 3 b := by
  have h3 : mLk2 τ p 3 = τ 3 := mLk2_fr τ p 3 (by decide)
  have e : mLook1 nt p τ 3 b = mLkB (mLk2 τ p) p nt (mTold (mSt τ p) (τ 25 p)) 3 b := by rw [mlk_eq]; rfl
  rw [e]
  unfold mLkB
  by_cases h1 : nt = true
  · rw [if_pos h1]
    by_cases h2 : mTold (mSt τ p) (τ 25 p) = true
    · rw [if_pos h2, sU_eq]
      by_cases hb : b = p / 4
      · rw [if_pos hb, if_pos ⟨⟨h1, h2⟩, hb⟩]
      · rw [if_neg hb, if_neg (fun q => hb q.2), h3]
    · rw [if_neg h2, if_neg (fun q => h2 q.1.2), h3]
  · rw [if_neg h1, if_neg (fun q => h1 q.1.1), h3]
/-- a place's own row, on both sides -/
def qS (σ τ : jS) (p : Nat) : Prop := τ 23 p = bI (cActive (σ 25 p)) ∧ σ 26 p = τ 24 p ∧ σ 27 p = τ 25 p
theorem role_cases (τ : jS) (p : Nat) : mRole τ p = nI 0 ∨ mRole τ p = nI 1 ∨ mRole τ p = nI 2 ∨ mRole τ p = nI 3 := by
  unfold mRole
  split
  · split
    · split
      · exact Or.inr (Or.inr (Or.inl rfl))
      · split
        · exact Or.inr (Or.inr (Or.inr rfl))
        · exact Or.inr (Or.inr (Or.inl rfl))
    · exact Or.inr (Or.inl rfl)
  · exact Or.inl rfl
theorem st_rel {σ τ : jS} {p : Nat} (hr : cRole σ p = mRole τ p) (hS : qS σ τ p) (ht : σ 3 2 = τ 0 3) (hd : σ 3 1 = τ 0 1) : c26 σ p = m24 τ p ∧ cSt σ p = mSt τ p := by
  obtain ⟨e1, e2, e3⟩ := hS
  have hnow : mNow τ p = cActive (mRole τ p) := rfl
  have h26 : c26 σ p = m24 τ p := by
    unfold c26 m24
    rw [hr, hnow, e1, e2, ht]
    cases cActive (mRole τ p) <;> cases cActive (σ 25 p) <;> simp [bI]
  refine ⟨h26, ?_⟩
  unfold cSt mSt
  rw [hr, h26, ht, hd]
  rcases role_cases τ p with e | e | e | e <;> rw [e]
  · rw [if_neg (by decide), if_pos (by decide)]
  · rw [if_pos (show cActive (nI 1) = true by decide), if_neg (show ¬ nI 1 = 0 by decide), if_pos (show ¬ nI 1 = nI 3 by decide)]
  · rw [if_pos (show cActive (nI 2) = true by decide), if_neg (show ¬ nI 2 = 0 by decide), if_pos (show ¬ nI 2 = nI 3 by decide)]
  · rw [if_neg (by decide), if_neg (by decide), if_neg (by decide)]
theorem st_cases (τ : jS) (p : Nat) : mSt τ p = nI 0 ∨ mSt τ p = nI 1 ∨ mSt τ p = nI 2 ∨ mSt τ p = nI 3 := by
  unfold mSt
  split
  · exact Or.inl rfl
  · split
    · split
      · split
        · exact Or.inr (Or.inr (Or.inr rfl))
        · exact Or.inr (Or.inr (Or.inl rfl))
      · exact Or.inr (Or.inl rfl)
    · exact Or.inl rfl
theorem worth_rel (w s : Int32) (h : s = nI 0 ∨ s = nI 1 ∨ s = nI 2 ∨ s = nI 3) : cWorth w s = mTold s w := by
  unfold cWorth mTold
  rcases h with rfl | rfl | rfl | rfl
  · rw [if_neg (by decide), show decide (nI 0 = nI 3) = false by decide, show decide (nI 2 ≤ nI 0) = false by decide, show decide (nI 0 = nI 2) = false by decide]; simp
  · rw [if_neg (by decide), show decide (nI 1 = nI 3) = false by decide, show decide (nI 2 ≤ nI 1) = false by decide, show decide (nI 1 = nI 2) = false by decide]; simp
  · rw [if_neg (by decide), show decide (nI 2 = nI 3) = false by decide, show decide (nI 2 ≤ nI 2) = true by decide, show decide (nI 2 = nI 2) = true by decide]; simp
  · rw [if_pos rfl, show decide (nI 3 = nI 3) = true by decide, show decide (nI 2 ≤ nI 3) = true by decide]; simp
