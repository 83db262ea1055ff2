/-! the reference's methods as functions on a state. τ 0 i: 0 limit 1 delay 2 memory 3 time 4 bridges 5 wires 6 hosts 7 routerAt 8 arrivals 9 crossed 10 reached 11 allCrossed 12 answer
arrays: 1 priority 2 until 3 notice 4 coming 5 plug 6 with 7 trunked 8 own 9 members 10 endP 11 endQ 12 price 13 gone 14 at 15 subnet 16 has 17 mRoot 18 mCost 19 mSender 20 mPort 21 mAge 22 mMark 23 active 24 since 25 was 26 where 27 when 28 line 29 lineTag -/
def mInv (τ : jS) : Prop :=
  okP 7 (τ 0 4) ∧ okP 11 (τ 0 5) ∧ okP 7 (τ 0 6) ∧ okQ 24 (τ 0 7) ∧ (∀ p, p < 24 → okP 10 (τ 6 p)) ∧ (∀ p, p < 24 → okP 4 (τ 8 p)) ∧ (∀ w, w < 10 → okP 24 (τ 10 w)) ∧ (∀ w, w < 10 → okP 24 (τ 11 w)) ∧
  (∀ h, h < 6 → okP 24 (τ 14 h)) ∧ (∀ h, h < 6 → okP 4 (τ 15 h)) ∧ (∀ i, i < 48 → okP 2 (τ 22 i)) ∧ (∀ i, i < 64 → okP 24 (τ 28 i)) ∧ (∀ i, i < 64 → okQ 4 (τ 29 i))
theorem mInv.nb {τ : jS} (h : mInv τ) : okP 7 (τ 0 4) := h.1
theorem mInv.nw {τ : jS} (h : mInv τ) : okP 11 (τ 0 5) := h.2.1
theorem mInv.nh {τ : jS} (h : mInv τ) : okP 7 (τ 0 6) := h.2.2.1
theorem mInv.rt {τ : jS} (h : mInv τ) : okQ 24 (τ 0 7) := h.2.2.2.1
theorem mInv.wi {τ : jS} (h : mInv τ) {p : Nat} (hp : p < 24) : okP 10 (τ 6 p) := h.2.2.2.2.1 p hp
theorem mInv.own {τ : jS} (h : mInv τ) {p : Nat} (hp : p < 24) : okP 4 (τ 8 p) := h.2.2.2.2.2.1 p hp
theorem mInv.eP {τ : jS} (h : mInv τ) {w : Nat} (hw : w < 10) : okP 24 (τ 10 w) := h.2.2.2.2.2.2.1 w hw
theorem mInv.eQ {τ : jS} (h : mInv τ) {w : Nat} (hw : w < 10) : okP 24 (τ 11 w) := h.2.2.2.2.2.2.2.1 w hw
theorem mInv.at_ {τ : jS} (h : mInv τ) {w : Nat} (hw : w < 6) : okP 24 (τ 14 w) := h.2.2.2.2.2.2.2.2.1 w hw
theorem mInv.sn {τ : jS} (h : mInv τ) {w : Nat} (hw : w < 6) : okP 4 (τ 15 w) := h.2.2.2.2.2.2.2.2.2.1 w hw
theorem mInv.mk {τ : jS} (h : mInv τ) {i : Nat} (hi : i < 48) : okP 2 (τ 22 i) := h.2.2.2.2.2.2.2.2.2.2.1 i hi
theorem mInv.ln {τ : jS} (h : mInv τ) {i : Nat} (hi : i < 64) : okP 24 (τ 28 i) := h.2.2.2.2.2.2.2.2.2.2.2.1 i hi
theorem mInv.lt {τ : jS} (h : mInv τ) {i : Nat} (hi : i < 64) : okQ 4 (τ 29 i) := h.2.2.2.2.2.2.2.2.2.2.2.2 i hi
def mNb (τ : jS) : Nat := (τ 0 4).toNatClampNeg
theorem mInv.nbl {τ : jS} (h : mInv τ) : mNb τ < 7 ∧ τ 0 4 = nI (mNb τ) := h.nb.cl (by decide)
theorem mInv.of_fr {ks : List Nat} {τ τ' : jS} (hI : mInv τ) (h : fr ks τ τ') (hk : ∀ k ∈ [0, 6, 8, 10, 11, 14, 15, 22, 28, 29], k ∉ ks) : mInv τ' := by
  have e : ∀ k ∈ [0, 6, 8, 10, 11, 14, 15, 22, 28, 29], τ' k = τ k := fun k hk' => h k (hk k hk')
  have e0 := e 0 (by decide); have e6 := e 6 (by decide); have e8 := e 8 (by decide); have e10 := e 10 (by decide); have e11 := e 11 (by decide)
  have e14 := e 14 (by decide); have e15 := e 15 (by decide); have e22 := e 22 (by decide); have e28 := e 28 (by decide); have e29 := e 29 (by decide)
  unfold mInv at hI ⊢
  rw [e0, e6, e8, e10, e11, e14, e15, e22, e28, e29]
  exact hI
theorem mInv.u {τ : jS} (hI : mInv τ) {k i : Nat} {v : Int32} (hk : ∀ j ∈ [0, 6, 8, 10, 11, 14, 15, 22, 28, 29], j ∉ [k]) : mInv (sU τ k i v) := hI.of_fr (ks := [k]) (fr.rf.u (List.mem_singleton.mpr rfl) i v) hk
theorem mInv.u0 {τ : jS} (hI : mInv τ) {i : Nat} {v : Int32} (h4 : ¬ 4 = i) (h5 : ¬ 5 = i) (h6 : ¬ 6 = i) (h7 : ¬ 7 = i) : mInv (sU τ 0 i v) := by
  refine ⟨?_, ?_, ?_, ?_, hI.2.2.2.2⟩
  · rw [sU_eq, if_neg h4]; exact hI.1
  · rw [sU_eq, if_neg h5]; exact hI.2.1
  · rw [sU_eq, if_neg h6]; exact hI.2.2.1
  · rw [sU_eq, if_neg h7]; exact hI.2.2.2.1
theorem mInv.u22 {τ : jS} (hI : mInv τ) {i : Nat} {v : Int32} (hv : okP 2 v) : mInv (sU τ 22 i v) := by
  refine ⟨hI.1, hI.2.1, hI.2.2.1, hI.2.2.2.1, hI.2.2.2.2.1, hI.2.2.2.2.2.1, hI.2.2.2.2.2.2.1, hI.2.2.2.2.2.2.2.1, hI.2.2.2.2.2.2.2.2.1, hI.2.2.2.2.2.2.2.2.2.1, fun j hj => ?_, hI.2.2.2.2.2.2.2.2.2.2.2⟩
  rw [sU_eq]
  split
  · exact hv
  · exact hI.mk hj
theorem nar2 {x : Int32} (h : okP 2 x) : vp_nar .boolean x = x := by
  obtain ⟨k, hk, rfl⟩ := h
  rcases (show k = 0 ∨ k = 1 by omega) with rfl | rfl <;> decide +kernel
theorem bI2 {x : Int32} (h : okP 2 x) : bI (!decide (x = 0)) = x := by
  obtain ⟨k, hk, rfl⟩ := h
  rcases (show k = 0 ∨ k = 1 by omega) with rfl | rfl <;> decide +kernel
theorem okP_bI (b : Bool) : okP 2 (bI b) := by
  cases b
  · exact ⟨0, by decide, by decide +kernel⟩
  · exact ⟨1, by decide, by decide +kernel⟩
def mNear (v lo hi : Int32) : Int32 := if lo ≤ v then (if v ≤ hi then v else hi) else lo
def mIsPlace (τ : jS) (p : Int32) : Bool := !decide (p < 0) && !decide (nI 4 * τ 0 4 ≤ p)
def mIsFree (τ : jS) (p : Int32) : Bool := mIsPlace τ p && decide (τ 5 p.toNatClampNeg = 0)
def mIsHost (τ : jS) (h : Int32) : Bool := !decide (h < 0) && !decide (τ 0 6 ≤ h)
def mPut (τ : jS) (p what num : Int32) : jS := sU (sU τ 5 p.toNatClampNeg what) 6 p.toNatClampNeg num
def mId (τ : jS) (b : Nat) : Int32 := nI 8 * τ 1 b + nI b
def mIsUp (τ : jS) (p : Nat) : Bool := decide (nI 1 < τ 5 p) || (decide (τ 5 p = nI 1) && decide (τ 13 (τ 6 p).toNatClampNeg = 0))
def mKey (a b c d : Int32) : Int64 := ((a.toInt64 * 1048576 + b.toInt64) * 64 + c.toInt64) * 64 + d.toInt64
def mOffer (τ : jS) (p : Nat) : Int64 := mKey (τ 17 p) (τ 18 p + τ 12 (τ 6 p).toNatClampNeg) (τ 19 p) (τ 20 p)
/-- after the first n ports: the best port, or -1, and its offer -/
def mPortN (τ : jS) (b : Nat) : Nat → Int32 × Int64
  | 0 => (-1, 0)
  | n + 1 => if τ 16 (4 * b + n) = 0 then mPortN τ b n else if τ 17 (4 * b + n) < mId τ b then
      (if (mPortN τ b n).1 < 0 then (nI n, mOffer τ (4 * b + n)) else if (mPortN τ b n).2 ≤ mOffer τ (4 * b + n) then mPortN τ b n else (nI n, mOffer τ (4 * b + n))) else mPortN τ b n
def mPort (τ : jS) (b : Nat) : Int32 := (mPortN τ b 4).1
def mRootOf (τ : jS) (b : Nat) : Int32 := if 0 ≤ mPort τ b then τ 17 (nI (4 * b) + mPort τ b).toNatClampNeg else mId τ b
def mDist (τ : jS) (b : Nat) : Int32 := if 0 ≤ mPort τ b then τ 18 (nI (4 * b) + mPort τ b).toNatClampNeg + τ 12 (τ 6 (nI (4 * b) + mPort τ b).toNatClampNeg).toNatClampNeg else nI 0
def mMarked (τ : jS) (b : Nat) : Bool := if 0 ≤ mPort τ b then !decide (τ 22 (nI (4 * b) + mPort τ b).toNatClampNeg = 0) else !decide (τ 2 b ≤ τ 0 3)
def mKeyO (τ : jS) (p : Nat) : Int64 := mKey (mRootOf τ (p / 4)) (mDist τ (p / 4)) (mId τ (p / 4)) (nI (p % 4))
def mKeyM (τ : jS) (p : Nat) : Int64 := mKey (τ 17 p) (τ 18 p) (τ 19 p) (τ 20 p)
def mRole (τ : jS) (p : Nat) : Int32 :=
  if mIsUp τ p = true then (if ¬ mPort τ (p / 4) = nI (p % 4) then (if τ 16 p = 0 then nI 2 else if mKeyM τ p ≤ mKeyO τ p then nI 3 else nI 2) else nI 1) else nI 0
def mState (τ : jS) (p : Nat) : Int32 :=
  if mRole τ p = 0 then nI 0 else if ¬ mRole τ p = nI 3 then (if τ 0 1 ≤ τ 0 3 - τ 24 p then (if nI 2 * τ 0 1 ≤ τ 0 3 - τ 24 p then nI 3 else nI 2) else nI 1) else nI 0
def mNow (τ : jS) (p : Nat) : Bool := decide (mRole τ p = nI 1) || decide (mRole τ p = nI 2)
def mLkA (τ : jS) (p : Nat) (n : Bool) : jS := if n = true then (if ¬ τ 23 p = 0 then τ else sU τ 24 p (τ 0 3)) else τ
def mLk2 (τ : jS) (p : Nat) : jS := sU (mLkA τ p (mNow τ p)) 23 p (bI (mNow τ p))
def mTold (s w : Int32) : Bool := if s = nI 3 then !decide (w = nI 3) else (!decide (w < nI 2) && !decide (s = nI 2))
def mLkB (τ : jS) (p : Nat) (nt t : Bool) : jS := if nt = true then (if t = true then sU τ 3 (p / 4) (nI 1) else τ) else τ
def mLook1 (nt : Bool) (p : Nat) (τ : jS) : jS := sU (mLkB (mLk2 τ p) p nt (mTold (mState (mLk2 τ p) p) (mLk2 τ p 25 p))) 25 p (mState (mLk2 τ p) p)
def mLook (τ : jS) (nt : Bool) : jS := forN (mLook1 nt) τ (4 * mNb τ)
def mOther (τ : jS) (p : Nat) : Int32 := if ¬ τ 10 (τ 6 p).toNatClampNeg = nI p then τ 10 (τ 6 p).toNatClampNeg else τ 11 (τ 6 p).toNatClampNeg
def mAge1 (p : Nat) (τ : jS) : jS :=
  if τ 16 p = 0 then τ else sU (sU τ 21 p (τ 21 p + nI 1)) 16 p (bI (!decide (τ 0 0 ≤ (sU τ 21 p (τ 21 p + nI 1)) 21 p)))
def mAge (τ : jS) : jS := forN mAge1 τ 24
def mClr (i : Nat) (τ : jS) : jS := sU τ 4 i (nI 0)
def mPassB (b : Nat) (τ : jS) : jS :=
  if ¬ τ 3 b = 0 then (if 0 ≤ mPort τ b then sU τ 4 (mOther τ (4 * b + (mPort τ b).toNatClampNeg) / nI 4).toNatClampNeg (nI 1) else sU τ 2 b (τ 0 3 + τ 0 0 + τ 0 1)) else τ
def mCpy (i : Nat) (τ : jS) : jS := sU τ 3 i (vp_nar .boolean (τ 4 i))
def mPass (τ : jS) : jS := forN mCpy (forN mPassB (forN mClr τ 6) (mNb τ)) 6
def mClr2 (i : Nat) (τ : jS) : jS := sU τ 16 (24 + i) (nI 0)
def mS1 (τ : jS) (to : Nat) : jS := sU τ 16 to (nI 1)
def mS2 (τ : jS) (b to : Nat) : jS := sU τ 17 to (mRootOf τ b)
def mS3 (τ : jS) (b to : Nat) : jS := sU τ 18 to (mDist τ b)
def mS4 (τ : jS) (b to : Nat) : jS := sU τ 19 to (mId τ b)
def mS5 (τ : jS) (p to : Nat) : jS := sU τ 20 to (nI (p % 4))
def mS6 (τ : jS) (b to : Nat) (k : Int32) : jS := sU τ 21 to (if 0 ≤ k then τ 21 (nI (4 * b) + k).toNatClampNeg else nI 0)
def mS7 (τ : jS) (b to : Nat) : jS := sU τ 22 to (bI (mMarked τ b))
def mSendTo (τ : jS) (p to : Nat) (k : Int32) : jS := mS7 (mS6 (mS5 (mS4 (mS3 (mS2 (mS1 τ to) (p / 4) to) (p / 4) to) (p / 4) to) p to) (p / 4) to k) (p / 4) to
def mSend1 (p : Nat) (τ : jS) : jS :=
  if ¬ τ 5 p = nI 1 then τ else if mRole τ p = nI 2 then mSendTo τ p (24 + (mOther τ p).toNatClampNeg) (mPort τ (p / 4)) else τ
def mHold (τ : jS) (p q : Nat) : jS :=
  sU (sU (sU (sU (sU (sU (sU τ 16 p (nI 1)) 17 p (τ 17 q)) 18 p (τ 18 q)) 19 p (τ 19 q)) 20 p (τ 20 q)) 21 p (τ 21 q)) 22 p (τ 22 q)
def mHold1 (p : Nat) (τ : jS) : jS := if τ 16 (24 + p) = 0 then τ else mHold τ p (24 + p)
def mSends (τ : jS) : jS := forN mHold1 (forN mSend1 (forN mClr2 τ 24) (4 * mNb τ)) 24
def mMost (τ : jS) (b : Nat) : Int32 := if mMarked τ b = false then τ 0 2 else if τ 0 2 ≤ τ 0 1 then τ 0 2 else τ 0 1
def mForget1 (b : Nat) (most : Int32) (e : Nat) (τ : jS) : jS := if τ 0 3 - τ 27 (28 * b + e) < most then τ else sU τ 26 (28 * b + e) (nI 0)
def mOld1 (b : Nat) (τ : jS) : jS := forN (mForget1 b (mMost τ b)) τ 28
def mOld (τ : jS) : jS := forN mOld1 τ (mNb τ)
def mTick (τ : jS) : jS := mOld (mLook (mSends (mPass (mAge (sU τ 0 3 (τ 0 3 + nI 1))))) true)
def mTicks (τ : jS) (n : Nat) : jS := forN (fun _ => mTick) τ n
-- frames
theorem mAge1_fr (p : Nat) (τ : jS) : fr [16, 21] τ (mAge1 p τ) := fr.ite fr.rf ((fr.rf.u (by decide) _ _).u (by decide) _ _)
theorem mLkA_fr (τ : jS) (p : Nat) (n : Bool) : fr [24] τ (mLkA τ p n) := fr.ite (fr.ite fr.rf (fr.rf.u (by decide) _ _)) fr.rf
theorem mLk2_fr (τ : jS) (p : Nat) : fr [23, 24] τ (mLk2 τ p) := ((mLkA_fr τ p _).wk (by decide)).u (by decide) _ _
theorem mLkB_fr (τ : jS) (p : Nat) (n t : Bool) : fr [3] τ (mLkB τ p n t) := fr.ite (fr.ite (fr.rf.u (by decide) _ _) fr.rf) fr.rf
theorem mLook1_fr (nt : Bool) (p : Nat) (τ : jS) : fr [3, 23, 24, 25] τ (mLook1 nt p τ) := (((mLk2_fr τ p).wk (by decide)).tr ((mLkB_fr _ p nt _).wk (by decide))).u (by decide) _ _
theorem mClr_fr (i : Nat) (τ : jS) : fr [2, 3, 4] τ (mClr i τ) := fr.rf.u (by decide) _ _
theorem mPassB_fr (b : Nat) (τ : jS) : fr [2, 3, 4] τ (mPassB b τ) := fr.ite (fr.ite (fr.rf.u (by decide) _ _) (fr.rf.u (by decide) _ _)) fr.rf
theorem mCpy_fr (i : Nat) (τ : jS) : fr [2, 3, 4] τ (mCpy i τ) := fr.rf.u (by decide) _ _
theorem mPass_fr (τ : jS) : fr [2, 3, 4] τ (mPass τ) := ((fr.n mClr_fr τ _).tr (fr.n mPassB_fr _ _)).tr (fr.n mCpy_fr _ _)
theorem mClr2_fr (i : Nat) (τ : jS) : fr [16] τ (mClr2 i τ) := fr.rf.u (by decide) _ _
theorem mForget1_fr (b : Nat) (m : Int32) (e : Nat) (τ : jS) : fr [26] τ (mForget1 b m e τ) := fr.ite fr.rf (fr.rf.u (by decide) _ _)
theorem mOld1_fr (b : Nat) (τ : jS) : fr [26] τ (mOld1 b τ) := fr.n (mForget1_fr b _) τ _
theorem mSendTo_fr (τ : jS) (p to : Nat) (k : Int32) : fr [16, 17, 18, 19, 20, 21, 22] τ (mSendTo τ p to k) := ((((((fr.rf.u (by decide) _ _).u (by decide) _ _).u (by decide) _ _).u (by decide) _ _).u (by decide) _ _).u (by decide) _ _).u (by decide) _ _
theorem mSend1_fr (p : Nat) (τ : jS) : fr [16, 17, 18, 19, 20, 21, 22] τ (mSend1 p τ) := fr.ite fr.rf (fr.ite (mSendTo_fr τ p _ _) fr.rf)
theorem mHold_fr (τ : jS) (p q : Nat) : fr [16, 17, 18, 19, 20, 21, 22] τ (mHold τ p q) := ((((((fr.rf.u (by decide) _ _).u (by decide) _ _).u (by decide) _ _).u (by decide) _ _).u (by decide) _ _).u (by decide) _ _).u (by decide) _ _
theorem mHold1_fr (p : Nat) (τ : jS) : fr [16, 17, 18, 19, 20, 21, 22] τ (mHold1 p τ) := fr.ite fr.rf (mHold_fr τ p _)
-- bounds
theorem mPortN_ok (τ : jS) (b n : Nat) (hn : n ≤ 4) : okQ 4 (mPortN τ b n).1 := by
  induction n with
  | zero => exact Or.inl rfl
  | succ n ih =>
    have h := ih (by omega)
    have hp : okQ 4 (nI n) := Or.inr ⟨n, by omega, rfl⟩
    unfold mPortN
    by_cases h1 : τ 16 (4 * b + n) = 0
    · rw [if_pos h1]; exact h
    · rw [if_neg h1]
      by_cases h2 : τ 17 (4 * b + n) < mId τ b
      · rw [if_pos h2]
        by_cases h3 : (mPortN τ b n).1 < 0
        · rw [if_pos h3]; exact hp
        · rw [if_neg h3]
          by_cases h4 : (mPortN τ b n).2 ≤ mOffer τ (4 * b + n)
          · rw [if_pos h4]; exact h
          · rw [if_neg h4]; exact hp
      · rw [if_neg h2]; exact h
theorem mPort_at {τ : jS} {b : Nat} (h : 0 ≤ mPort τ b) : (mPort τ b).toNatClampNeg < 4 ∧ mPort τ b = nI (mPort τ b).toNatClampNeg := by
  refine (mPortN_ok τ b 4 (Nat.le_refl _)).cl (fun e => ?_) (by decide)
  have e2 : mPort τ b = -1 := e
  rw [e2] at h
  exact absurd h (by decide)
theorem mPort_add {τ : jS} {b : Nat} (h : 0 ≤ mPort τ b) : nI (4 * b) + mPort τ b = nI (4 * b + (mPort τ b).toNatClampNeg) := by
  have e := (mPort_at h).2
  calc nI (4 * b) + mPort τ b = nI (4 * b) + nI (mPort τ b).toNatClampNeg := by rw [← e]
    _ = _ := nI_add _ _
theorem mPort_in {τ : jS} {b n : Nat} (h : 0 ≤ mPort τ b) (hb : b < 6) (hn : 24 ≤ n) (hn2 : n < 2 ^ 31) : vp_in (nI (4 * b) + mPort τ b) n := by
  rw [mPort_add h]
  have := (mPort_at h).1
  exact vp_in_nI (by omega) hn2
theorem mPort_cl {τ : jS} {b : Nat} (h : 0 ≤ mPort τ b) (hb : b < 6) : (nI (4 * b) + mPort τ b).toNatClampNeg < 24 := by
  rw [mPort_add h]
  have := (mPort_at h).1
  rw [nI_clamp (by omega)]
  omega
theorem mOther_ok {τ : jS} (hI : mInv τ) {p : Nat} (hp : p < 24) : okP 24 (mOther τ p) := by
  have hw := ((hI.wi hp).cl (by decide)).1
  unfold mOther
  split
  · exact hI.eP hw
  · exact hI.eQ hw
theorem mAge_inv {τ : jS} (hI : mInv τ) : mInv (mAge τ) := hI.of_fr (fr.n mAge1_fr _ _) (by decide)
theorem mPass_inv {τ : jS} (hI : mInv τ) : mInv (mPass τ) := hI.of_fr (mPass_fr τ) (by decide)
theorem mLook_inv {τ : jS} (hI : mInv τ) (nt : Bool) : mInv (mLook τ nt) := hI.of_fr (fr.n (mLook1_fr nt) _ _) (by decide)
theorem mOld_inv {τ : jS} (hI : mInv τ) : mInv (mOld τ) := hI.of_fr (fr.n mOld1_fr _ _) (by decide)
theorem mSendTo_inv {τ : jS} (hI : mInv τ) (p to : Nat) (k : Int32) : mInv (mSendTo τ p to k) := ((((((hI.u (by decide)).u (by decide)).u (by decide)).u (by decide)).u (by decide)).u (by decide)).u22 (okP_bI _)
theorem mSend1_inv {τ : jS} (hI : mInv τ) (p : Nat) : mInv (mSend1 p τ) := by
  unfold mSend1
  split
  · exact hI
  · split
    · exact mSendTo_inv hI _ _ _
    · exact hI
theorem mHold_inv {τ : jS} (hI : mInv τ) {p q : Nat} (hq : q < 48) : mInv (mHold τ p q) := ((((((hI.u (by decide)).u (by decide)).u (by decide)).u (by decide)).u (by decide)).u (by decide)).u22 (hI.mk hq)
theorem mHold1_inv {τ : jS} (hI : mInv τ) {p : Nat} (hp : p < 24) : mInv (mHold1 p τ) := by
  unfold mHold1
  split
  · exact hI
  · exact mHold_inv hI (by omega)
theorem mN_inv {f : Nat → jS → jS} {n : Nat} (h : ∀ i, i < n → ∀ τ, mInv τ → mInv (f i τ)) {τ : jS} (hI : mInv τ) : ∀ i, i ≤ n → mInv (forN f τ i) := by
  intro i
  induction i with
  | zero => exact fun _ => hI
  | succ i ih => exact fun hi => h i (by omega) _ (ih (by omega))
theorem mClr2N_inv {τ : jS} (hI : mInv τ) (i : Nat) : mInv (forN mClr2 τ i) := hI.of_fr (fr.n mClr2_fr _ _) (by decide)
theorem mSendN_inv {τ : jS} (hI : mInv τ) (i : Nat) : mInv (forN mSend1 (forN mClr2 τ 24) i) := mN_inv (n := i) (fun p _ τ h => mSend1_inv h p) (mClr2N_inv hI 24) i (Nat.le_refl _)
theorem mHoldN_inv {τ : jS} (hI : mInv τ) (n : Nat) : ∀ i, i ≤ 24 → mInv (forN mHold1 (forN mSend1 (forN mClr2 τ 24) n) i) := mN_inv (fun p hp τ h => mHold1_inv h hp) (mSendN_inv hI n)
theorem mSends_inv {τ : jS} (hI : mInv τ) : mInv (mSends τ) := mHoldN_inv hI _ 24 (Nat.le_refl _)
theorem mTick_inv {τ : jS} (hI : mInv τ) : mInv (mTick τ) := mOld_inv (mLook_inv (mSends_inv (mPass_inv (mAge_inv (hI.u0 (by decide) (by decide) (by decide) (by decide))))) true)
theorem mTicks_s (τ : jS) (n : Nat) : mTicks τ (n + 1) = mTick (mTicks τ n) := by
  unfold mTicks
  rw [forN_s]
theorem mTicks_inv {τ : jS} (hI : mInv τ) : ∀ n, mInv (mTicks τ n) := by
  intro n
  induction n with
  | zero => exact hI
  | succ n ih => rw [mTicks_s]; exact mTick_inv ih
