/-! the class's methods as functions on a state. A state: σ k i is element i of array k, or (k ≤ 5) the i-th int field of object k.
objects: 0 CampusNet (0 memory, 1 latestAnswer), 1 Plan (0 bridgeCount, 1 wireCount, 2 hostCount, 3 routerPlace), 2 Networks, 3 Tree (0 limit, 1 delay, 2 time), 4 Table, 5 Carrier (0 arrivalCount, 1 source, 2 destination, 3 frameCrossings, 4 reached, 5 countedCrossings)
arrays: 6 bridgeIds 7 wireEnds 8 wireCosts 9 wireIsCut 10 hostPlaces 11 hostSubnets 12 wires 13 farPlaces 14 guests 15 untagged 16 members 17 isTrunk 18 messages 19 holds 20 sentMessages 21 isSentTo 22 roots 23 distances 24 rootPlaces 25 roles 26 since 27 states 28 until 29 hasNotice 30 passesNotice 31 ports 32 times 33 arrivalPlaces 34 arrivalTags -/
def cWithin (n lo hi : Int32) : Bool := decide (lo ≤ n) && decide (n ≤ hi)
def cHasBit (bits n : Int32) : Bool := ((bits >>> (n &&& 31)) &&& nI 1) == nI 1
def cNear (n lo hi : Int32) : Int32 := if lo < (if n < hi then n else hi) then (if n < hi then n else hi) else lo
/-! ranges, and the class's own bounds (what keeps every index within its array) -/
def okP (n : Nat) (x : Int32) : Prop := ∃ k, k < n ∧ x = nI k
def okQ (n : Nat) (x : Int32) : Prop := x = -1 ∨ okP n x
theorem okP.inn {n : Nat} {x : Int32} (h : okP n x) (hn : n < 2 ^ 31) : vp_in x n := by
  obtain ⟨k, hk, rfl⟩ := h
  exact vp_in_nI hk hn
theorem okP.cl {n : Nat} {x : Int32} (h : okP n x) (hn : n < 2 ^ 31) : x.toNatClampNeg < n ∧ x = nI x.toNatClampNeg := by
  obtain ⟨k, hk, rfl⟩ := h
  rw [nI_clamp (by omega)]
  exact ⟨hk, rfl⟩
theorem okQ.inn {n : Nat} {x : Int32} (h : okQ n x) (hx : ¬ x = -1) (hn : n < 2 ^ 31) : vp_in x n := (h.resolve_left hx).inn hn
theorem okQ.cl {n : Nat} {x : Int32} (h : okQ n x) (hx : ¬ x = -1) (hn : n < 2 ^ 31) : x.toNatClampNeg < n ∧ x = nI x.toNatClampNeg := (h.resolve_left hx).cl hn
def cInv (σ : jS) : Prop :=
  okP 7 (σ 1 0) ∧ okP 11 (σ 1 1) ∧ okP 7 (σ 1 2) ∧ okQ 24 (σ 1 3) ∧ (∀ w, w < 10 → okP 24 (σ 7 w)) ∧ (∀ h, h < 6 → okP 24 (σ 10 h)) ∧ (∀ h, h < 6 → okP 4 (σ 11 h)) ∧
  (∀ p, p < 24 → okQ 10 (σ 12 p)) ∧ (∀ p, p < 24 → okQ 24 (σ 13 p)) ∧ (∀ p, p < 24 → okP 4 (σ 15 p)) ∧ (∀ b, b < 6 → okQ 24 (σ 24 b)) ∧ (∀ i, i < 61 → okP 24 (σ 33 i)) ∧ (∀ i, i < 61 → okQ 4 (σ 34 i))
theorem cInv.nb {σ : jS} (h : cInv σ) : okP 7 (σ 1 0) := h.1
theorem cInv.nw {σ : jS} (h : cInv σ) : okP 11 (σ 1 1) := h.2.1
theorem cInv.nh {σ : jS} (h : cInv σ) : okP 7 (σ 1 2) := h.2.2.1
theorem cInv.rt {σ : jS} (h : cInv σ) : okQ 24 (σ 1 3) := h.2.2.2.1
theorem cInv.ends {σ : jS} (h : cInv σ) {w : Nat} (hw : w < 10) : okP 24 (σ 7 w) := h.2.2.2.2.1 w hw
theorem cInv.hp {σ : jS} (h : cInv σ) {w : Nat} (hw : w < 6) : okP 24 (σ 10 w) := h.2.2.2.2.2.1 w hw
theorem cInv.sn {σ : jS} (h : cInv σ) {w : Nat} (hw : w < 6) : okP 4 (σ 11 w) := h.2.2.2.2.2.2.1 w hw
theorem cInv.wires {σ : jS} (h : cInv σ) {p : Nat} (hp : p < 24) : okQ 10 (σ 12 p) := h.2.2.2.2.2.2.2.1 p hp
theorem cInv.far {σ : jS} (h : cInv σ) {p : Nat} (hp : p < 24) : okQ 24 (σ 13 p) := h.2.2.2.2.2.2.2.2.1 p hp
theorem cInv.unt {σ : jS} (h : cInv σ) {p : Nat} (hp : p < 24) : okP 4 (σ 15 p) := h.2.2.2.2.2.2.2.2.2.1 p hp
theorem cInv.rp {σ : jS} (h : cInv σ) {b : Nat} (hb : b < 6) : okQ 24 (σ 24 b) := h.2.2.2.2.2.2.2.2.2.2.1 b hb
theorem cInv.ap {σ : jS} (h : cInv σ) {i : Nat} (hi : i < 61) : okP 24 (σ 33 i) := h.2.2.2.2.2.2.2.2.2.2.2.1 i hi
theorem cInv.tag {σ : jS} (h : cInv σ) {i : Nat} (hi : i < 61) : okQ 4 (σ 34 i) := h.2.2.2.2.2.2.2.2.2.2.2.2 i hi
/-- a number within 0 .. n - 1, n read as an int of at most m -/
theorem cWithin_in {x y : Int32} {m : Nat} (hy : okP (m + 1) y) (hm : m < 2 ^ 30) (h : cWithin x (nI 0) (y - nI 1) = true) : ∃ k, x = nI k ∧ k < y.toNatClampNeg := by
  obtain ⟨n, hn, rfl⟩ := hy
  simp only [cWithin, Bool.and_eq_true, decide_eq_true_eq] at h
  obtain ⟨h0, h1⟩ := h
  obtain ⟨k, hk, rfl⟩ := nI_of (x := x) (by rw [nI_0] at h0; exact Int32.not_lt.mpr h0)
  refine ⟨k, rfl, ?_⟩
  rw [nI_clamp (by omega)]
  rw [Int32.le_iff_toInt_le, nI_toInt hk, pk_sub_toInt (by omega) (by omega)] at h1
  omega
theorem cWithin_nI {k n : Nat} (hk : k < 2 ^ 31) (hn : n < 2 ^ 30) : cWithin (nI k) (nI 0) (nI n - nI 1) = decide (k < n) := by
  have h1 : (nI 0 ≤ nI k) := nI_le (Nat.zero_le _) hk
  have h2 : (nI k ≤ nI n - nI 1) ↔ k < n := by
    rw [Int32.le_iff_toInt_le, nI_toInt hk, pk_sub_toInt (by omega) (by omega)]
    omega
  simp only [cWithin, h1, decide_true, Bool.true_and]
  exact decide_eq_decide.mpr h2
def cNb (σ : jS) : Nat := (σ 1 0).toNatClampNeg
theorem cInv.nbl {σ : jS} (h : cInv σ) : cNb σ < 7 ∧ σ 1 0 = nI (cNb σ) := h.nb.cl (by decide)
-- Plan
def cIsBridge (σ : jS) (b : Int32) : Bool := cWithin b (nI 0) (σ 1 0 - nI 1)
def cIsPlace (σ : jS) (p : Int32) : Bool := cWithin p (nI 0) (nI 4 * σ 1 0 - nI 1)
def cIsHost (σ : jS) (h : Int32) : Bool := cWithin h (nI 0) (σ 1 2 - nI 1)
def cIsFree (σ : jS) (p : Int32) : Bool := cIsPlace σ p && (σ 12 p.toNatClampNeg == -1) && (σ 14 p.toNatClampNeg == -1)
def cHasRouter (σ : jS) : Bool := σ 1 3 != -1
def cWhole (σ : jS) (p : Nat) : Bool := σ 12 p != -1 && (σ 9 (σ 12 p).toNatClampNeg == 0)
def cIsUp (σ : jS) (p : Nat) : Bool := σ 14 p != -1 || cWhole σ p
def cAddBridge (σ : jS) (pr : Int32) : jS := sU (sU σ 6 (σ 1 0).toNatClampNeg (nI 8 * pr + σ 1 0)) 1 0 (σ 1 0 + nI 1)
def cAddWire (σ : jS) (p q cost : Int32) : jS :=
  sU (sU (sU (sU (sU (sU (sU σ 7 (σ 1 1).toNatClampNeg p) 8 (σ 1 1).toNatClampNeg cost) 12 p.toNatClampNeg (σ 1 1)) 12 q.toNatClampNeg (σ 1 1)) 13 p.toNatClampNeg q) 13 q.toNatClampNeg p) 1 1 (σ 1 1 + nI 1)
def cAddHost (σ : jS) (p sn : Int32) : jS :=
  sU (sU (sU (sU σ 10 (σ 1 2).toNatClampNeg p) 11 (σ 1 2).toNatClampNeg sn) 14 p.toNatClampNeg (σ 1 2)) 1 2 (σ 1 2 + nI 1)
def cAddRouter (σ : jS) (p : Int32) : jS := sU (sU σ 1 3 p) 14 p.toNatClampNeg (nI 6)
-- Networks
def cAccess (σ : jS) (p nw : Int32) : jS := sU (sU (sU σ 15 p.toNatClampNeg nw) 16 p.toNatClampNeg (nI 1 <<< (nw &&& 31))) 17 p.toNatClampNeg (nI 0)
def cTrunk (σ : jS) (p nn mb : Int32) : jS := sU (sU (sU σ 15 p.toNatClampNeg nn) 16 p.toNatClampNeg mb) 17 p.toNatClampNeg (nI 1)
def cIsMember (σ : jS) (p : Nat) (nw : Int32) : Bool := ((σ 16 p >>> (nw &&& 31)) &&& nI 1) == nI 1
def cInside (σ : jS) (p : Nat) (tag : Int32) : Int32 :=
  if tag ≠ -1 ∧ σ 17 p = 0 then -1 else if cIsMember σ p (if tag = -1 then σ 15 p else tag) then (if tag = -1 then σ 15 p else tag) else -1
def cTagOut (σ : jS) (p : Nat) (nw : Int32) : Int32 := if σ 15 p = nw then -1 else nw
-- Tree
def cMarked (σ : jS) (b : Nat) : Bool := if σ 24 b = -1 then decide (σ 3 2 < σ 28 b) else σ 18 (nI 6 * σ 24 b + nI 5).toNatClampNeg == nI 1
def cDrop (σ : jS) (p : Int32) : jS := sU σ 19 p.toNatClampNeg (nI 0)
def cAge1 (p : Nat) (σ : jS) : jS :=
  if σ 19 p = 0 then σ else sU (sU σ 18 (6 * p + 4) (σ 18 (6 * p + 4) + nI 1)) 19 p (bI (decide (σ 18 (6 * p + 4) + nI 1 < σ 3 0)))
def cAge (σ : jS) : jS := forN cAge1 σ 24
def cOffCost (σ : jS) (p : Nat) : Int32 := σ 18 (6 * p + 1) + (if σ 12 p = -1 then nI 0 else σ 8 (σ 12 p).toNatClampNeg)
def cRank (r c s p : Int64) : Int64 := ((((r <<< ((nI 20).toInt64 &&& 63)) ||| c) <<< ((nI 6).toInt64 &&& 63) ||| s) <<< ((nI 2).toInt64 &&& 63)) ||| p
def cOffRank (σ : jS) (p : Nat) : Int64 := cRank (σ 18 (6 * p + 0)).toInt64 (cOffCost σ p).toInt64 (σ 18 (6 * p + 2)).toInt64 (σ 18 (6 * p + 3)).toInt64
def cMsgRank (σ : jS) (p : Nat) : Int64 := cRank (σ 18 (6 * p + 0)).toInt64 (σ 18 (6 * p + 1)).toInt64 (σ 18 (6 * p + 2)).toInt64 (σ 18 (6 * p + 3)).toInt64
def cOffering (σ : jS) (p : Nat) : Bool := σ 19 p != 0 && cWhole σ p && decide (σ 18 (6 * p + 0) < σ 6 (p / 4))
/-- after the first n ports of the bridge b -/
def cBestN (σ : jS) (b : Nat) : Nat → Int32
  | 0 => -1
  | n + 1 => if cOffering σ (4 * b + n) && (cBestN σ b n == -1 || decide (cOffRank σ (4 * b + n) < cOffRank σ (cBestN σ b n).toNatClampNeg)) then nI (4 * b + n) else cBestN σ b n
def cBest (σ : jS) (b : Nat) : Int32 := cBestN σ b 4
def cRoot1 (b : Nat) (σ : jS) : jS :=
  sU (sU (sU σ 24 b (cBest σ b)) 22 b (if cBest σ b = -1 then σ 6 b else σ 18 (6 * cBest σ b).toNatClampNeg)) 23 b (if cBest σ b = -1 then 0 else cOffCost σ (cBest σ b).toNatClampNeg)
def cRoots (σ : jS) : jS := forN cRoot1 σ (cNb σ)
def cOwnRank (σ : jS) (p : Nat) : Int64 := cRank (σ 22 (p / 4)).toInt64 (σ 23 (p / 4)).toInt64 (σ 6 (p / 4)).toInt64 (nI (p % 4)).toInt64
def cRole (σ : jS) (p : Nat) : Int32 :=
  if cIsUp σ p = false then 0 else if σ 24 (p / 4) = nI p then 1 else if σ 19 p = 0 ∨ cOwnRank σ p < cMsgRank σ p then 2 else 3
def cActive (r : Int32) : Bool := r == 1 || r == 2
def cLook (σ : jS) (p : Nat) : jS :=
  sU (if cActive (cRole σ p) && !cActive (σ 25 p) then sU σ 26 p (σ 3 2) else σ) 25 p (cRole σ p)
def cState (σ : jS) (p : Nat) : Int32 :=
  if cActive (σ 25 p) = false then 0 else if σ 3 2 - σ 26 p < σ 3 1 then 1 else if σ 3 2 - σ 26 p < 2 * σ 3 1 then 2 else 3
def cWorth (b a : Int32) : Bool := (a == 3 && b != 3) || (decide (2 ≤ b) && decide (a < 2))
def cSettle1 (p : Nat) (σ : jS) : jS :=
  if cWorth (cLook σ p 27 p) (cState (cLook σ p) p) then sU (sU (cLook σ p) 27 p (cState (cLook σ p) p)) 29 (p / 4) 1 else sU (cLook σ p) 27 p (cState (cLook σ p) p)
def cSettle (σ : jS) : jS := forN cSettle1 (cRoots σ) (4 * cNb σ)
def cPassA (b : Nat) (σ : jS) : jS := sU (sU σ 30 b (σ 29 b)) 29 b 0
def cPassOf (σ : jS) (b : Nat) : jS :=
  if σ 24 b = -1 then sU σ 28 b (σ 3 2 + σ 3 0 + σ 3 1)
  else if σ 13 (σ 24 b).toNatClampNeg = -1 then σ else sU σ 29 (σ 13 (σ 24 b).toNatClampNeg / 4).toNatClampNeg 1
def cPassB (b : Nat) (σ : jS) : jS := if σ 30 b = 0 then σ else cPassOf σ b
def cPass (σ : jS) : jS := forN cPassB (forN cPassA σ (cNb σ)) (cNb σ)
def cSend (σ : jS) (p : Nat) (far : Int32) : jS :=
  sU (sU (sU (sU (sU (sU (sU σ 20 (6 * far + 0).toNatClampNeg (σ 22 (p / 4))) 20 (6 * far + 1).toNatClampNeg (σ 23 (p / 4))) 20 (6 * far + 2).toNatClampNeg (σ 6 (p / 4))) 20 (6 * far + 3).toNatClampNeg (nI (p % 4)))
    20 (6 * far + 4).toNatClampNeg (if σ 24 (p / 4) = -1 then 0 else σ 18 (6 * σ 24 (p / 4) + 4).toNatClampNeg)) 20 (6 * far + 5).toNatClampNeg (bI (cMarked σ (p / 4)))) 21 far.toNatClampNeg 1
def cSend1 (p : Nat) (σ : jS) : jS := if cWhole σ p && (cRole σ p == 2) then cSend σ p (σ 13 p) else σ
def cSends (σ : jS) : jS := forN cSend1 σ (4 * cNb σ)
def cTake1 (p : Nat) (σ : jS) : jS := if σ 21 p = 0 then σ else sU (sU (sF σ 18 (va_cpy (σ 20) (σ 18) (6 * p) (6 * p) 6)) 19 p 1) 21 p 0
def cTake (σ : jS) : jS := forN cTake1 σ 24
def cTick (σ : jS) : jS := cSettle (cTake (cSends (cPass (cRoots (cAge (sU σ 3 2 (σ 3 2 + 1)))))))
-- Table
def cPort (σ : jS) (b nw ad : Nat) : Int32 := σ 31 (28 * b + 7 * nw + ad)
def cLearn (σ : jS) (p nw ad : Nat) (time : Int32) : jS := sU (sU σ 31 (28 * (p / 4) + 7 * nw + ad) (nI (p % 4))) 32 (28 * (p / 4) + 7 * nw + ad) time
def cCountN (σ : jS) (b : Nat) : Nat → Nat
  | 0 => 0
  | n + 1 => if σ 31 (28 * b + n) = -1 then cCountN σ b n else cCountN σ b n + 1
def cForget1 (b : Nat) (time span : Int32) (e : Nat) (σ : jS) : jS := if span ≤ time - σ 32 (28 * b + e) then sU σ 31 (28 * b + e) (-1) else σ
def cForget (σ : jS) (b : Nat) (time span : Int32) : jS := forN (cForget1 b time span) σ 28
def cOld1 (b : Nat) (σ : jS) : jS := cForget σ b (σ 3 2) (if cMarked σ b then σ 3 1 else σ 0 0)
def cOld (σ : jS) : jS := forN cOld1 σ (cNb σ)
def cTick1 (σ : jS) : jS := cOld (cTick σ)
def cTicks (σ : jS) (n : Nat) : jS := forN (fun _ => cTick1) σ n
