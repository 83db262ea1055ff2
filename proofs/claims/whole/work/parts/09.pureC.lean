/-! the class's methods as functions on a state. A state: σ k i is element i of array k, or (k ≤ 5) the i-th int field of object k.
objects: 0 CampusNet (0 memory, 1 latestAnswer), 1 Plan (0 bridgeCount, 1 wireCount, 2 hostCount, 3 routerPlace), 2 Networks, 3 Tree (0 limit, 1 delay, 2 time), 4 Table, 5 Carrier (0 arrivalCount, 1 source, 2 destination, 3 frameCrossings, 4 reached, 5 countedCrossings)
arrays: 6 bridgeIds 7 wireEnds 8 wireCosts 9 wireIsCut 10 hostPlaces 11 hostSubnets 12 wires 13 farPlaces 14 guests 15 untagged 16 members 17 isTrunk 18 messages 19 holds 20 sentMessages 21 isSentTo 22 roots 23 distances 24 rootPlaces 25 roles 26 since 27 states 28 until 29 hasNotice 30 passesNotice 31 ports 32 times 33 arrivalPlaces 34 arrivalTags -/
def cWithin (n lo hi : Int32) : Bool := decide (lo ≤ n) && decide (n ≤ hi)
def cHasBit (bits n : Int32) : Bool := ((bits >>> (n &&& 31)) &&& nI 1) == nI 1
def cNear (n lo hi : Int32) : Int32 := if lo < (if n < hi then n else hi) then (if n < hi then n else hi) else lo
/-! ranges, and the class's own bounds (what keeps every index within its array) -/
def okP (n : Nat) (x : Int32) : Prop := ∃ k, k < n ∧ x = nI k
def okQ (n : Nat) (x : Int32) : Prop := x = -1 ∨ okP n x
theorem okP.inn {n : Nat} {x : Int32} (h : okP n x) (hn : n < 2 ^ 31) : vp_in x n := by
  obtain ⟨k, hk, rfl⟩ := h
  exact vp_in_nI hk hn
theorem okP.cl {n : Nat} {x : Int32} (h : okP n x) (hn : n < 2 ^ 31) : x.toNatClampNeg < n ∧ x = nI x.toNatClampNeg := by
  obtain ⟨k, hk, rfl⟩ := h
  rw [nI_clamp (by omega)]
  exact ⟨hk, rfl⟩
theorem okQ.inn {n : Nat} {x : Int32} (h : okQ n x) (hx : ¬ x = -1) (hn : n < 2 ^ 31) : vp_in x n := (h.resolve_left hx).inn hn
theorem okQ.cl {n : Nat} {x : Int32} (h : okQ n x) (hx : ¬ x = -1) (hn : n < 2 ^ 31) : x.toNatClampNeg < n ∧ x = nI x.toNatClampNeg := (h.resolve_left hx).cl hn
def cInv (σ : jS) : Prop :=
  okP 7 (σ 1 0) ∧ okP 11 (σ 1 1) ∧ okP 7 (σ 1 2) ∧ okQ 24 (σ 1 3) ∧ (∀ w, w < 10 → okP 24 (σ 7 w)) ∧ (∀ h, h < 6 → okP 24 (σ 10 h)) ∧ (∀ h, h < 6 → okP 4 (σ 11 h)) ∧
  (∀ p, p < 24 → okQ 10 (σ 12 p)) ∧ (∀ p, p < 24 → okQ 24 (σ 13 p)) ∧ (∀ p, p < 24 → okP 4 (σ 15 p)) ∧ (∀ b, b < 6 → okQ 24 (σ 24 b)) ∧ (∀ i, i < 61 → okP 24 (σ 33 i)) ∧ (∀ i, i < 61 → okQ 4 (σ 34 i)) ∧ (∀ p, p < 24 → ¬ σ 12 p = -1 → okP 24 (σ 13 p)) ∧ (∀ w, w < (σ 1 1).toNatClampNeg → okP 24 (σ 13 (σ 7 w).toNatClampNeg))
theorem cInv.nb {σ : jS} (h : cInv σ) : okP 7 (σ 1 0) := h.1
theorem cInv.nw {σ : jS} (h : cInv σ) : okP 11 (σ 1 1) := h.2.1
theorem cInv.nh {σ : jS} (h : cInv σ) : okP 7 (σ 1 2) := h.2.2.1
theorem cInv.rt {σ : jS} (h : cInv σ) : okQ 24 (σ 1 3) := h.2.2.2.1
theorem cInv.ends {σ : jS} (h : cInv σ) {w : Nat} (hw : w < 10) : okP 24 (σ 7 w) := h.2.2.2.2.1 w hw
theorem cInv.hp {σ : jS} (h : cInv σ) {w : Nat} (hw : w < 6) : okP 24 (σ 10 w) := h.2.2.2.2.2.1 w hw
theorem cInv.sn {σ : jS} (h : cInv σ) {w : Nat} (hw : w < 6) : okP 4 (σ 11 w) := h.2.2.2.2.2.2.1 w hw
theorem cInv.wires {σ : jS} (h : cInv σ) {p : Nat} (hp : p < 24) : okQ 10 (σ 12 p) := h.2.2.2.2.2.2.2.1 p hp
theorem cInv.far {σ : jS} (h : cInv σ) {p : Nat} (hp : p < 24) : okQ 24 (σ 13 p) := h.2.2.2.2.2.2.2.2.1 p hp
theorem cInv.unt {σ : jS} (h : cInv σ) {p : Nat} (hp : p < 24) : okP 4 (σ 15 p) := h.2.2.2.2.2.2.2.2.2.1 p hp
theorem cInv.rp {σ : jS} (h : cInv σ) {b : Nat} (hb : b < 6) : okQ 24 (σ 24 b) := h.2.2.2.2.2.2.2.2.2.2.1 b hb
theorem cInv.ap {σ : jS} (h : cInv σ) {i : Nat} (hi : i < 61) : okP 24 (σ 33 i) := h.2.2.2.2.2.2.2.2.2.2.2.1 i hi
theorem cInv.tag {σ : jS} (h : cInv σ) {i : Nat} (hi : i < 61) : okQ 4 (σ 34 i) := h.2.2.2.2.2.2.2.2.2.2.2.2.1 i hi
theorem cInv.wf {σ : jS} (h : cInv σ) {p : Nat} (hp : p < 24) (hw : ¬ σ 12 p = -1) : okP 24 (σ 13 p) := h.2.2.2.2.2.2.2.2.2.2.2.2.2.1 p hp hw
theorem cInv.we {σ : jS} (h : cInv σ) {w : Nat} (hw : w < (σ 1 1).toNatClampNeg) : okP 24 (σ 13 (σ 7 w).toNatClampNeg) := h.2.2.2.2.2.2.2.2.2.2.2.2.2.2 w hw
/-- a number within 0 .. n - 1, n read as an int of at most m -/
theorem cWithin_in {x y : Int32} {m : Nat} (hy : okP (m + 1) y) (hm : m < 2 ^ 30) (h : cWithin x (nI 0) (y - nI 1) = true) : ∃ k, x = nI k ∧ k < y.toNatClampNeg := by
  obtain ⟨n, hn, rfl⟩ := hy
  simp only [cWithin, Bool.and_eq_true, decide_eq_true_eq] at h
  obtain ⟨h0, h1⟩ := h
  obtain ⟨k, hk, rfl⟩ := nI_of (x := x) (by rw [nI_0] at h0; exact Int32.not_lt.mpr h0)
  refine ⟨k, rfl, ?_⟩
  rw [nI_clamp (by omega)]
  rw [Int32.le_iff_toInt_le, nI_toInt hk, pk_sub_toInt (by omega) (by omega)] at h1
  omega
theorem cWithin_nI {k n : Nat} (hk : k < 2 ^ 31) (hn : n < 2 ^ 30) : cWithin (nI k) (nI 0) (nI n - nI 1) = decide (k < n) := by
  have h1 : (nI 0 ≤ nI k) := nI_le (Nat.zero_le _) hk
  have h2 : (nI k ≤ nI n - nI 1) ↔ k < n := by
    rw [Int32.le_iff_toInt_le, nI_toInt hk, pk_sub_toInt (by omega) (by omega)]
    omega
  simp only [cWithin, h1, decide_true, Bool.true_and]
  exact decide_eq_decide.mpr h2
def cNb (σ : jS) : Nat := (σ 1 0).toNatClampNeg
theorem cInv.nbl {σ : jS} (h : cInv σ) : cNb σ < 7 ∧ σ 1 0 = nI (cNb σ) := h.nb.cl (by decide)
-- Plan
def cIsBridge (σ : jS) (b : Int32) : Bool := cWithin b (nI 0) (σ 1 0 - nI 1)
def cIsPlace (σ : jS) (p : Int32) : Bool := cWithin p (nI 0) (nI 4 * σ 1 0 - nI 1)
def cIsHost (σ : jS) (h : Int32) : Bool := cWithin h (nI 0) (σ 1 2 - nI 1)
def cIsFree (σ : jS) (p : Int32) : Bool := cIsPlace σ p && (σ 12 p.toNatClampNeg == -1) && (σ 14 p.toNatClampNeg == -1)
def cHasRouter (σ : jS) : Bool := σ 1 3 != -1
def cWhole (σ : jS) (p : Nat) : Bool := σ 12 p != -1 && (σ 9 (σ 12 p).toNatClampNeg == 0)
def cIsUp (σ : jS) (p : Nat) : Bool := σ 14 p != -1 || cWhole σ p
def cAddBridge (σ : jS) (pr : Int32) : jS := sU (sU σ 6 (σ 1 0).toNatClampNeg (nI 8 * pr + σ 1 0)) 1 0 (σ 1 0 + nI 1)
def cAddWire (σ : jS) (p q cost : Int32) : jS :=
  sU (sU (sU (sU (sU (sU (sU σ 7 (σ 1 1).toNatClampNeg p) 8 (σ 1 1).toNatClampNeg cost) 12 p.toNatClampNeg (σ 1 1)) 12 q.toNatClampNeg (σ 1 1)) 13 p.toNatClampNeg q) 13 q.toNatClampNeg p) 1 1 (σ 1 1 + nI 1)
def cAddHost (σ : jS) (p sn : Int32) : jS :=
  sU (sU (sU (sU σ 10 (σ 1 2).toNatClampNeg p) 11 (σ 1 2).toNatClampNeg sn) 14 p.toNatClampNeg (σ 1 2)) 1 2 (σ 1 2 + nI 1)
def cAddRouter (σ : jS) (p : Int32) : jS := sU (sU σ 1 3 p) 14 p.toNatClampNeg (nI 6)
-- Networks
def cAccess (σ : jS) (p nw : Int32) : jS := sU (sU (sU σ 15 p.toNatClampNeg nw) 16 p.toNatClampNeg (nI 1 <<< (nw &&& 31))) 17 p.toNatClampNeg (nI 0)
def cTrunk (σ : jS) (p nn mb : Int32) : jS := sU (sU (sU σ 15 p.toNatClampNeg nn) 16 p.toNatClampNeg mb) 17 p.toNatClampNeg (nI 1)
def cIsMember (σ : jS) (p : Nat) (nw : Int32) : Bool := ((σ 16 p >>> (nw &&& 31)) &&& nI 1) == nI 1
def cInside (σ : jS) (p : Nat) (tag : Int32) : Int32 :=
  if ¬ tag = -1 ∧ σ 17 p = 0 then -1 else if cIsMember σ p (if ¬ tag = -1 then tag else σ 15 p) = true then (if ¬ tag = -1 then tag else σ 15 p) else -1
def cTagOut (σ : jS) (p : Nat) (nw : Int32) : Int32 := if σ 15 p = nw then -1 else nw
-- Tree
def cMarked (σ : jS) (b : Nat) : Bool := if σ 24 b = -1 then !decide (σ 28 b ≤ σ 3 2) else σ 18 (nI 6 * σ 24 b + nI 5).toNatClampNeg == nI 1
def cDrop (σ : jS) (p : Int32) : jS := sU σ 19 p.toNatClampNeg (nI 0)
def cAge1 (p : Nat) (σ : jS) : jS :=
  if σ 19 p = 0 then σ
  else sU (sU σ 18 (6 * p + 4) (σ 18 (6 * p + 4) + nI 1)) 19 p (bI (!decide (σ 3 0 ≤ (sU σ 18 (6 * p + 4) (σ 18 (6 * p + 4) + nI 1)) 18 (6 * p + 4))))
def cAge (σ : jS) : jS := forN cAge1 σ 24
def cOffCost (σ : jS) (p : Nat) : Int32 := σ 18 (6 * p + 1) + (if ¬ σ 12 p = -1 then σ 8 (σ 12 p).toNatClampNeg else nI 0)
def cRank (r c s p : Int64) : Int64 := ((((r <<< ((nI 20).toInt64 &&& 63)) ||| c) <<< ((nI 6).toInt64 &&& 63) ||| s) <<< ((nI 2).toInt64 &&& 63)) ||| p
def cOffRank (σ : jS) (p : Nat) : Int64 := cRank (σ 18 (6 * p + 0)).toInt64 (cOffCost σ p).toInt64 (σ 18 (6 * p + 2)).toInt64 (σ 18 (6 * p + 3)).toInt64
def cMsgRank (σ : jS) (p : Nat) : Int64 := cRank (σ 18 (6 * p + 0)).toInt64 (σ 18 (6 * p + 1)).toInt64 (σ 18 (6 * p + 2)).toInt64 (σ 18 (6 * p + 3)).toInt64
def cOffering (σ : jS) (p : Nat) : Bool := σ 19 p != 0 && cWhole σ p && !decide (σ 6 (p / 4) ≤ σ 18 (6 * p + 0))
/-- after the first n ports of the bridge b -/
def cBestN (σ : jS) (b : Nat) : Nat → Int32
  | 0 => -1
  | n + 1 => if cOffering σ (4 * b + n) = true then (if cBestN σ b n = -1 then nI (4 * b + n) else if cOffRank σ (cBestN σ b n).toNatClampNeg ≤ cOffRank σ (4 * b + n) then cBestN σ b n else nI (4 * b + n)) else cBestN σ b n
def cBest (σ : jS) (b : Nat) : Int32 := cBestN σ b 4
def cRoot1 (b : Nat) (σ : jS) : jS :=
  sU (sU (sU σ 24 b (cBest σ b)) 22 b (if ¬ cBest σ b = -1 then σ 18 (nI 6 * cBest σ b + nI 0).toNatClampNeg else σ 6 b)) 23 b (if ¬ cBest σ b = -1 then cOffCost σ (cBest σ b).toNatClampNeg else nI 0)
def cRoots (σ : jS) : jS := forN cRoot1 σ (cNb σ)
def cOwnRank (σ : jS) (p : Nat) : Int64 := cRank (σ 22 (p / 4)).toInt64 (σ 23 (p / 4)).toInt64 (σ 6 (p / 4)).toInt64 (nI (p % 4)).toInt64
def cRole (σ : jS) (p : Nat) : Int32 :=
  if cIsUp σ p = true then (if ¬ σ 24 (p / 4) = nI p then (if σ 19 p = 0 then nI 2 else if cMsgRank σ p ≤ cOwnRank σ p then nI 3 else nI 2) else nI 1) else nI 0
def cActive (r : Int32) : Bool := decide (r = nI 1) || decide (r = nI 2)
def cLook (σ : jS) (p : Nat) : jS :=
  sU (if cActive (cRole σ p) = true ∧ cActive (σ 25 p) = false then sU σ 26 p (σ 3 2) else σ) 25 p (cRole σ p)
def cState (σ : jS) (p : Nat) : Int32 :=
  if cActive (σ 25 p) = true then (if σ 3 1 ≤ σ 3 2 - σ 26 p then (if nI 2 * σ 3 1 ≤ σ 3 2 - σ 26 p then nI 3 else nI 2) else nI 1) else nI 0
def cWorth (b a : Int32) : Bool := (decide (a = nI 3) && !decide (b = nI 3)) || (!decide (b < nI 2) && !decide (nI 2 ≤ a))
def cSettle1 (p : Nat) (σ : jS) : jS :=
  if cWorth (cLook σ p 27 p) ((sU (cLook σ p) 27 p (cState (cLook σ p) p)) 27 p) = true then sU (sU (cLook σ p) 27 p (cState (cLook σ p) p)) 29 (p / 4) (nI 1) else sU (cLook σ p) 27 p (cState (cLook σ p) p)
def cSettle (σ : jS) : jS := forN cSettle1 (cRoots σ) (4 * cNb σ)
def cPassA (b : Nat) (σ : jS) : jS := sU (sU σ 30 b (vp_nar .boolean (σ 29 b))) 29 b (nI 0)
def cPassOf (σ : jS) (b : Nat) : jS :=
  if ¬ σ 24 b = -1 then (if σ 13 (σ 24 b).toNatClampNeg = -1 then σ else sU σ 29 (σ 13 (σ 24 b).toNatClampNeg / nI 4).toNatClampNeg (nI 1))
  else sU σ 28 b (σ 3 2 + σ 3 0 + σ 3 1)
def cPassB (b : Nat) (σ : jS) : jS := if σ 30 b = 0 then σ else cPassOf σ b
def cPass (σ : jS) : jS := forN cPassB (forN cPassA σ (cNb σ)) (cNb σ)
def cSend (σ : jS) (p far : Nat) : jS :=
  sU (sU (sU (sU (sU (sU (sU σ 20 (6 * far + 0) (σ 22 (p / 4))) 20 (6 * far + 1) (σ 23 (p / 4))) 20 (6 * far + 2) (σ 6 (p / 4))) 20 (6 * far + 3) (nI (p % 4)))
    20 (6 * far + 4) (if ¬ σ 24 (p / 4) = -1 then σ 18 (nI 6 * σ 24 (p / 4) + nI 4).toNatClampNeg else nI 0)) 20 (6 * far + 5) (bI (cMarked σ (p / 4)))) 21 far (nI 1)
def cSend1 (p : Nat) (σ : jS) : jS := if cWhole σ p = true then (if ¬ cRole σ p = nI 2 then σ else cSend σ p (σ 13 p).toNatClampNeg) else σ
def cSends (σ : jS) : jS := forN cSend1 σ (4 * cNb σ)
def cTake1 (p : Nat) (σ : jS) : jS := if σ 21 p = 0 then σ else sU (sU (sF σ 18 (va_cpy (σ 20) (σ 18) (6 * p) (6 * p) 6)) 19 p (nI 1)) 21 p (nI 0)
def cTake (σ : jS) : jS := forN cTake1 σ 24
def cTick (σ : jS) : jS := cSettle (cTake (cSends (cPass (cRoots (cAge (sU σ 3 2 (σ 3 2 + nI 1)))))))
-- Table
def cPort (σ : jS) (b nw ad : Nat) : Int32 := σ 31 (28 * b + 7 * nw + ad)
def cLearn (σ : jS) (p nw ad : Nat) (time : Int32) : jS := sU (sU σ 31 (28 * (p / 4) + 7 * nw + ad) (nI (p % 4))) 32 (28 * (p / 4) + 7 * nw + ad) time
def cCountN (σ : jS) (b : Nat) : Nat → Nat
  | 0 => 0
  | n + 1 => if σ 31 (28 * b + n) = -1 then cCountN σ b n else cCountN σ b n + 1
def cForget1 (b : Nat) (time span : Int32) (e : Nat) (σ : jS) : jS := if time - σ 32 (28 * b + e) < span then σ else sU σ 31 (28 * b + e) (-1)
def cForget (σ : jS) (b : Nat) (time span : Int32) : jS := forN (cForget1 b time span) σ 28
def cOld1 (b : Nat) (σ : jS) : jS := cForget σ b (σ 3 2) (if cMarked σ b = false then σ 0 0 else σ 3 1)
def cOld (σ : jS) : jS := forN cOld1 σ (cNb σ)
def cTick1 (σ : jS) : jS := cOld (cTick σ)
def cTicks (σ : jS) (n : Nat) : jS := forN (fun _ => cTick1) σ n
-- which cells a function leaves alone
def fr (ks : List Nat) (σ σ' : jS) : Prop := ∀ k, k ∉ ks → σ' k = σ k
theorem fr.rf {ks : List Nat} {σ : jS} : fr ks σ σ := fun _ _ => rfl
theorem fr.tr {ks : List Nat} {σ σ' σ'' : jS} (h1 : fr ks σ σ') (h2 : fr ks σ' σ'') : fr ks σ σ'' := fun k hk => (h2 k hk).trans (h1 k hk)
theorem fr.u {ks : List Nat} {σ σ' : jS} (h : fr ks σ σ') {k : Nat} (hk : k ∈ ks) (i : Nat) (v : Int32) : fr ks σ (sU σ' k i v) := fun j hj => (sU_ne (k := k) (j := j) σ' i v (fun e => hj (e.symm ▸ hk))).trans (h j hj)
theorem fr.f {ks : List Nat} {σ σ' : jS} (h : fr ks σ σ') {k : Nat} (hk : k ∈ ks) (f : Nat → Int32) : fr ks σ (sF σ' k f) := fun j hj => (sF_ne (k := k) (j := j) σ' f (fun e => hj (e.symm ▸ hk))).trans (h j hj)
theorem fr.ite {ks : List Nat} {σ σ' σ'' : jS} {c : Prop} [Decidable c] (h1 : fr ks σ σ') (h2 : fr ks σ σ'') : fr ks σ (if c then σ' else σ'') := by
  by_cases h : c
  · rw [if_pos h]; exact h1
  · rw [if_neg h]; exact h2
theorem fr.n {ks : List Nat} {f : Nat → jS → jS} (h : ∀ i σ, fr ks σ (f i σ)) (σ : jS) (n : Nat) : fr ks σ (forN f σ n) := by
  induction n with
  | zero => exact fr.rf
  | succ n ih => exact ih.tr (h n _)
theorem fr.wk {ks ks' : List Nat} {σ σ' : jS} (h : fr ks σ σ') (hs : ∀ k ∈ ks, k ∈ ks') : fr ks' σ σ' := fun k hk => h k (fun e => hk (hs k e))
theorem cInv.of_fr {ks : List Nat} {σ σ' : jS} (hI : cInv σ) (h : fr ks σ σ') (hk : ∀ k ∈ [1, 7, 10, 11, 12, 13, 15, 24, 33, 34], k ∉ ks) : cInv σ' := by
  have e : ∀ k ∈ [1, 7, 10, 11, 12, 13, 15, 24, 33, 34], σ' k = σ k := fun k hk' => h k (hk k hk')
  have e1 := e 1 (by decide); have e7 := e 7 (by decide); have e10 := e 10 (by decide); have e11 := e 11 (by decide); have e12 := e 12 (by decide)
  have e13 := e 13 (by decide); have e15 := e 15 (by decide); have e24 := e 24 (by decide); have e33 := e 33 (by decide); have e34 := e 34 (by decide)
  unfold cInv at hI ⊢
  rw [e1, e7, e10, e11, e12, e13, e15, e24, e33, e34]
  exact hI
theorem cAge1_fr (p : Nat) (σ : jS) : fr [18, 19] σ (cAge1 p σ) := fr.ite fr.rf ((fr.rf.u (by decide) _ _).u (by decide) _ _)
theorem cRoot1_fr (b : Nat) (σ : jS) : fr [22, 23, 24] σ (cRoot1 b σ) := ((fr.rf.u (by decide) _ _).u (by decide) _ _).u (by decide) _ _
theorem cRoots_fr (σ : jS) : fr [22, 23, 24] σ (cRoots σ) := fr.n cRoot1_fr σ _
theorem cLook_fr (σ : jS) (p : Nat) : fr [25, 26] σ (cLook σ p) := (fr.ite (fr.rf.u (by decide) _ _) fr.rf).u (by decide) _ _
theorem cSettle1_fr (p : Nat) (σ : jS) : fr [25, 26, 27, 29] σ (cSettle1 p σ) := fr.ite ((((cLook_fr σ p).wk (by decide)).u (by decide) _ _).u (by decide) _ _) (((cLook_fr σ p).wk (by decide)).u (by decide) _ _)
theorem cPassA_fr (b : Nat) (σ : jS) : fr [28, 29, 30] σ (cPassA b σ) := (fr.rf.u (by decide) _ _).u (by decide) _ _
theorem cPassOf_fr (σ : jS) (b : Nat) : fr [28, 29, 30] σ (cPassOf σ b) := fr.ite (fr.ite fr.rf (fr.rf.u (by decide) _ _)) (fr.rf.u (by decide) _ _)
theorem cPassB_fr (b : Nat) (σ : jS) : fr [28, 29, 30] σ (cPassB b σ) := fr.ite fr.rf (cPassOf_fr σ b)
theorem cPass_fr (σ : jS) : fr [28, 29, 30] σ (cPass σ) := (fr.n cPassA_fr σ _).tr (fr.n cPassB_fr _ _)
theorem cSend_fr (σ : jS) (p far : Nat) : fr [20, 21] σ (cSend σ p far) := ((((((fr.rf.u (by decide) _ _).u (by decide) _ _).u (by decide) _ _).u (by decide) _ _).u (by decide) _ _).u (by decide) _ _).u (by decide) _ _
theorem cSend1_fr (p : Nat) (σ : jS) : fr [20, 21] σ (cSend1 p σ) := fr.ite (fr.ite fr.rf (cSend_fr σ p _)) fr.rf
theorem cTake1_fr (p : Nat) (σ : jS) : fr [18, 19, 21] σ (cTake1 p σ) := fr.ite fr.rf (((fr.rf.f (by decide) _).u (by decide) _ _).u (by decide) _ _)
theorem cForget1_fr (b : Nat) (t s : Int32) (e : Nat) (σ : jS) : fr [31] σ (cForget1 b t s e σ) := fr.ite fr.rf (fr.rf.u (by decide) _ _)
theorem cOld1_fr (b : Nat) (σ : jS) : fr [31] σ (cOld1 b σ) := fr.n (cForget1_fr b _ _) σ _
-- the best place is a place of the bridge, or none
theorem cBestN_ok (σ : jS) (b n : Nat) (hb : b < 6) (hn : n ≤ 4) : okQ 24 (cBestN σ b n) := by
  induction n with
  | zero => exact Or.inl rfl
  | succ n ih =>
    have h := ih (by omega)
    have hp : okQ 24 (nI (4 * b + n)) := Or.inr ⟨4 * b + n, by omega, rfl⟩
    unfold cBestN
    by_cases h1 : cOffering σ (4 * b + n) = true
    · rw [if_pos h1]
      by_cases h2 : cBestN σ b n = -1
      · rw [if_pos h2]; exact hp
      · rw [if_neg h2]
        by_cases h3 : cOffRank σ (cBestN σ b n).toNatClampNeg ≤ cOffRank σ (4 * b + n)
        · rw [if_pos h3]; exact h
        · rw [if_neg h3]; exact hp
    · rw [if_neg h1]; exact h
theorem cRoot1_inv (b : Nat) (σ : jS) (hb : b < 6) (hI : cInv σ) : cInv (cRoot1 b σ) := by
  have h := cRoot1_fr b σ
  have e24 : ∀ j, cRoot1 b σ 24 j = if j = b then cBest σ b else σ 24 j := fun j => sU_eq σ 24 b (cBest σ b) j
  unfold cInv at hI ⊢
  rw [h 1 (by decide), h 7 (by decide), h 10 (by decide), h 11 (by decide), h 12 (by decide), h 13 (by decide), h 15 (by decide), h 33 (by decide), h 34 (by decide)]
  refine ⟨hI.1, hI.2.1, hI.2.2.1, hI.2.2.2.1, hI.2.2.2.2.1, hI.2.2.2.2.2.1, hI.2.2.2.2.2.2.1, hI.2.2.2.2.2.2.2.1, hI.2.2.2.2.2.2.2.2.1, hI.2.2.2.2.2.2.2.2.2.1, fun j hj => ?_, hI.2.2.2.2.2.2.2.2.2.2.2.1, hI.2.2.2.2.2.2.2.2.2.2.2.2⟩
  rw [e24]
  by_cases e : j = b
  · rw [if_pos e]; exact cBestN_ok σ b 4 hb (Nat.le_refl _)
  · rw [if_neg e]; exact hI.2.2.2.2.2.2.2.2.2.2.1 j hj
theorem cRootN_inv {σ : jS} (hI : cInv σ) : ∀ n, n ≤ 6 → cInv (forN cRoot1 σ n) := by
  intro n
  induction n with
  | zero => exact fun _ => hI
  | succ n ih => exact fun hn => cRoot1_inv n _ (by omega) (ih (by omega))
