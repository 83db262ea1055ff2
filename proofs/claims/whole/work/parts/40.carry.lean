/-! a frame's way -/
def kR (σ τ : jS) (src : Nat) (tgt : Int32) (s t : jS) : Prop :=
  fr [5, 31, 32, 33, 34] σ s ∧ fr [0, 26, 27, 28, 29] τ t ∧ (∀ i, i ∉ [8, 9, 10] → t 0 i = τ 0 i) ∧ s 5 5 = σ 5 5 ∧ s 5 1 = nI src ∧ s 5 2 = tgt ∧ cOkS s ∧ mOkS t ∧ s 5 0 = t 0 8 ∧ s 5 3 = t 0 9 ∧ s 5 4 = t 0 10 ∧
  (∀ i, i < (t 0 8).toNatClampNeg → s 33 i = t 28 i ∧ s 34 i = t 29 i) ∧ zE s t
theorem kR.st {σ τ s t : jS} {src : Nat} {tgt : Int32} (hZ : zR σ τ) (h : kR σ τ src tgt s t) {p : Nat} (hp : p < 24) : s 27 p = mState t p := by
  obtain ⟨hf, hg, h0, -⟩ := h
  have hs : mSame τ t := mSame.of_fr hg (by decide)
  rw [hf 27 (by decide), state_all hZ hp]
  unfold mState
  rw [mRole_congr hs, hg 24 (by decide), h0 1 (by decide), h0 3 (by decide)]
theorem kR.cross {σ τ s t : jS} {src : Nat} {tgt : Int32} (h : kR σ τ src tgt s t) {c n : Nat} (hc : t 0 9 = nI c) (hn : t 0 8 = nI n) (hc6 : c < 60) (hnc : n ≤ c + 1) : kR σ τ src tgt (sU s 5 3 (s 5 3 + nI 1)) (mCross t) := by
  obtain ⟨hf, hg, h0, k5, k1, k2, hI, hJ, e0, e3, e4, ha, hE⟩ := h
  refine ⟨hf.u (by decide) _ _, hg.u (by decide) _ _, fun i hi => ?_, k5, k1, k2, hI.u5 (by decide), ⟨mCross_inv hJ.1, c + 1, n, ?_, hn, by omega, by omega⟩, e0, ?_, e4, ha, hE.of (fr.rf.u (List.mem_singleton.mpr rfl) _ _) (fr.rf.u (List.mem_singleton.mpr rfl) _ _) (by decide) (by decide)⟩
  · have : mCross t 0 i = if i = 9 then t 0 9 + nI 1 else t 0 i := sU_eq t 0 9 _ i
    rw [this, if_neg (fun e => hi (by rw [e]; decide))]
    exact h0 i hi
  · show t 0 9 + nI 1 = _
    rw [hc, nI_add]
  · show s 5 3 + nI 1 = t 0 9 + nI 1
    rw [e3]
theorem kR.reach {σ τ s t : jS} {src : Nat} {tgt : Int32} (h : kR σ τ src tgt s t) (m : Int32) : kR σ τ src tgt (sU s 5 4 (s 5 4 ||| m)) (sU t 0 10 (t 0 10 ||| m)) := by
  obtain ⟨hf, hg, h0, k5, k1, k2, hI, hJ, e0, e3, e4, ha, hE⟩ := h
  refine ⟨hf.u (by decide) _ _, hg.u (by decide) _ _, fun i hi => ?_, k5, k1, k2, hI.u5 (by decide), ⟨hJ.1.u0 (by decide) (by decide) (by decide) (by decide), hJ.2⟩, e0, e3, ?_, ha, hE.of (fr.rf.u (List.mem_singleton.mpr rfl) _ _) (fr.rf.u (List.mem_singleton.mpr rfl) _ _) (by decide) (by decide)⟩
  · rw [sU_eq, if_neg (fun e => hi (by rw [e]; decide))]
    exact h0 i hi
  · show s 5 4 ||| m = t 0 10 ||| m
    rw [e4]
theorem kR.arrive {σ τ s t : jS} {src : Nat} {tgt : Int32} (h : kR σ τ src tgt s t) {c n : Nat} {x g : Int32} (hc : t 0 9 = nI c) (hn : t 0 8 = nI n) (hc6 : c ≤ 60) (hnc : n ≤ c) (hx : okP 24 x) (hg4 : okQ 4 g) :
    kR σ τ src tgt (sU (sU (sU s 33 (s 5 0).toNatClampNeg x) 34 (s 5 0).toNatClampNeg g) 5 0 (s 5 0 + nI 1)) (mArrive t x g) := by
  obtain ⟨hf, hg, h0, k5, k1, k2, hI, hJ, e0, e3, e4, ha, hE⟩ := h
  have es : s 5 0 = nI n := e0.trans hn
  have cn : (nI n).toNatClampNeg = n := nI_clamp (by omega)
  unfold mArrive
  rw [hn, es, cn, nI_add]
  have e33 : ∀ j, sU (sU (sU s 33 n x) 34 n g) 5 0 (nI (n + 1)) 33 j = if j = n then x else s 33 j := fun j => by
    rw [sU_ne (k := 5) (j := 33) _ _ _ (by decide), sU_ne (k := 34) (j := 33) _ _ _ (by decide), sU_eq]
  have e34 : ∀ j, sU (sU (sU s 33 n x) 34 n g) 5 0 (nI (n + 1)) 34 j = if j = n then g else s 34 j := fun j => by
    rw [sU_ne (k := 5) (j := 34) _ _ _ (by decide), sU_eq, sU_ne (k := 33) (j := 34) _ _ _ (by decide)]
  have f28 : ∀ j, sU (sU (sU t 28 n x) 29 n g) 0 8 (nI (n + 1)) 28 j = if j = n then x else t 28 j := fun j => by
    rw [sU_ne (k := 0) (j := 28) _ _ _ (by decide), sU_ne (k := 29) (j := 28) _ _ _ (by decide), sU_eq]
  have f29 : ∀ j, sU (sU (sU t 28 n x) 29 n g) 0 8 (nI (n + 1)) 29 j = if j = n then g else t 29 j := fun j => by
    rw [sU_ne (k := 0) (j := 29) _ _ _ (by decide), sU_eq, sU_ne (k := 28) (j := 29) _ _ _ (by decide)]
  have e5 : ∀ j, sU (sU (sU s 33 n x) 34 n g) 5 0 (nI (n + 1)) 5 j = if j = 0 then nI (n + 1) else s 5 j := fun j => by
    rw [sU_eq, sU_ne (k := 34) (j := 5) _ _ _ (by decide), sU_ne (k := 33) (j := 5) _ _ _ (by decide)]
  have f0 : ∀ j, sU (sU (sU t 28 n x) 29 n g) 0 8 (nI (n + 1)) 0 j = if j = 8 then nI (n + 1) else t 0 j := fun j => by
    rw [sU_eq, sU_ne (k := 29) (j := 0) _ _ _ (by decide), sU_ne (k := 28) (j := 0) _ _ _ (by decide)]
  have hI' : cInv (sU (sU (sU s 33 n x) 34 n g) 5 0 (nI (n + 1))) := hI.1.arr hx hg4 0
  have hJ' : mInv (sU (sU (sU t 28 n x) 29 n g) 0 8 (nI (n + 1))) := hJ.1.arr hx hg4
  have hE' : zE (sU (sU (sU s 33 n x) 34 n g) 5 0 (nI (n + 1))) (sU (sU (sU t 28 n x) 29 n g) 0 8 (nI (n + 1))) :=
    hE.of (ks := [33, 34, 5]) (ls := [28, 29, 0]) (((fr.rf.u (by decide) _ _).u (by decide) _ _).u (by decide) _ _) (((fr.rf.u (by decide) _ _).u (by decide) _ _).u (by decide) _ _) (by decide) (by decide)
  refine ⟨((hf.u (by decide) _ _).u (by decide) _ _).u (by decide) _ _, ((hg.u (by decide) _ _).u (by decide) _ _).u (by decide) _ _, fun i hi => ?_, ?_, ?_, ?_, ⟨hI', ?_, ?_, ?_⟩, ⟨hJ', c, n + 1, ?_, ?_, hc6, by omega⟩, ?_, ?_, ?_, fun i hi => ?_, hE'⟩
  · rw [f0, if_neg (fun e => hi (by rw [e]; decide))]; exact h0 i hi
  · rw [e5, if_neg (by decide)]; exact k5
  · rw [e5, if_neg (by decide)]; exact k1
  · rw [e5, if_neg (by decide)]; exact k2
  · rw [e5, if_pos rfl]; exact ⟨n + 1, by omega, rfl⟩
  · rw [e5, if_neg (by decide)]; exact hI.2.2.1
  · rw [e5, if_neg (by decide)]; exact hI.2.2.2
  · rw [f0, if_neg (by decide)]; exact hc
  · rw [f0, if_pos rfl]
  · rw [e5, f0, if_pos rfl, if_pos rfl]
  · rw [e5, f0, if_neg (by decide), if_neg (by decide)]; exact e3
  · rw [e5, f0, if_neg (by decide), if_neg (by decide)]; exact e4
  · rw [f0, if_pos rfl, nI_clamp (by omega)] at hi
    rw [e33, e34, f28, f29]
    by_cases e : i = n
    · rw [if_pos e, if_pos e, if_pos e, if_pos e]; exact ⟨rfl, rfl⟩
    · rw [if_neg e, if_neg e, if_neg e, if_neg e]
      exact ha i (by rw [hn, cn]; omega)
theorem bit4 {o n : Nat} (ho : o < 4) (hn : n < 4) (h : ((nI 1 <<< (nI o &&& 31)) >>> (nI n &&& 31) &&& nI 1 == nI 1) = true) : o = n := by
  rcases (show o = 0 ∨ o = 1 ∨ o = 2 ∨ o = 3 by omega) with rfl | rfl | rfl | rfl <;> rcases (show n = 0 ∨ n = 1 ∨ n = 2 ∨ n = 3 by omega) with rfl | rfl | rfl | rfl <;> first | rfl | exact absurd h (by decide)
theorem kR.mem {σ τ s t : jS} {src : Nat} {tgt : Int32} (hZ : zR σ τ) (h : kR σ τ src tgt s t) {p : Nat} (hp : p < 24) (nw : Int32) : cIsMember s p nw = mIsMember t p nw := by
  have hV := hZ.2.2.2.2.2.1 p hp
  unfold cIsMember mIsMember
  rw [h.1 16 (by decide), h.2.1 9 (by decide), hV.2.1]
theorem kR.tag {σ τ s t : jS} {src : Nat} {tgt : Int32} (hZ : zR σ τ) (h : kR σ τ src tgt s t) {p nw : Nat} (hp : p < 24) (hn : nw < 4) (hm : mIsMember t p (nI nw) = true) : cTagOut s p (nI nw) = mTag t p (nI nw) := by
  have hV := hZ.2.2.2.2.2.1 p hp
  obtain ⟨o, ho, eo⟩ := hZ.qT.2.1.own hp
  unfold mIsMember at hm
  unfold cTagOut mTag
  rw [h.2.1 9 (by decide)] at hm
  rw [h.1 15 (by decide), h.2.1 7 (by decide), h.2.1 8 (by decide), hV.1, eo]
  by_cases h7 : τ 7 p = 0
  · rw [hV.2.2.2 h7, eo] at hm
    rw [if_pos h7, if_pos (by rw [bit4 ho hn hm])]
  · rw [if_neg h7]
    by_cases e : nI o = nI nw
    · rw [if_pos e, if_neg (fun q => q e.symm)]
    · rw [if_neg e, if_pos (fun q => e q.symm)]
theorem tag_neg {x : Int32} (h : okQ 4 x) : 0 ≤ x ↔ ¬ x = -1 := by
  rcases h with rfl | ⟨k, hk, rfl⟩
  · exact ⟨fun e => absurd e (by decide), fun e => absurd rfl e⟩
  · exact ⟨fun _ => neg1_ne k (by omega), fun _ => nI_pos' (by omega)⟩
theorem kR.go {σ τ s t : jS} {src : Nat} {tgt : Int32} (hZ : zR σ τ) (h : kR σ τ src tgt s t) {p nw : Nat} (hp : p < 24) (hn : nw < 4) (hm : mIsMember t p (nI nw) = true) (hc : ¬ nI 60 ≤ t 0 9) (hst : mState t p = nI 3) :
    kR σ τ src tgt (cGoOut s p (cTagOut s p (nI nw))) (mGoOut t p (nI nw)) := by
  have htag := h.tag hZ hp hn hm
  have hok : okQ 4 (mTag t p (nI nw)) := mTag_ok ⟨nw, hn, rfl⟩
  rw [htag]
  have h' := h
  obtain ⟨hf, hg, h0, k5, k1, k2, hI, hJ, e0, e3, e4, ha, hE⟩ := h'
  obtain ⟨-, c, n, ec, en, hc6, hnc⟩ := hJ
  have hc60 : c < 60 := by
    rw [ec, nI_leI (by decide) (by omega)] at hc
    omega
  have hx := h.cross ec en hc60 hnc
  have hlt : s 5 3 < nI 60 := by rw [e3, ec]; exact nI_lt hc60 (by decide)
  have h5 := hg 5 (by decide)
  have h6 := hg 6 (by decide)
  unfold cGoOut mGoOut
  rw [if_pos hlt, hf 14 (by decide), hf 13 (by decide), h5, h6]
  generalize hgt : mTag t p (nI nw) = g at hok ⊢
  have c10 : mCross t 0 10 = t 0 10 := rfl
  have c9 : mCross t 0 9 = nI (c + 1) := by
    show t 0 9 + nI 1 = _
    rw [ec, nI_add]
  have c8 : mCross t 0 8 = nI n := en
  have co : mOther (mCross t) p = mOther τ p := by
    unfold mOther
    have a : fr [0, 26, 27, 28, 29] τ (mCross t) := hg.u (by decide) _ _
    rw [a 6 (by decide), a 10 (by decide), a 11 (by decide)]
  rcases hZ.qT.2.2.2.2.1 p hp with q | q | q | q
  · have : mState t p = nI 0 := st_no (by rw [h5]; exact q.1)
    rw [hst] at this
    exact absurd this (by decide)
  · rw [q.1, if_neg (fun e => e rfl), q.2.2.1, q.2.2.2.1, co]
    have hoth : okP 24 (mOther τ p) := mOther_ok hZ.qT.2.1 hp
    have hne : ¬ mOther τ p = -1 := by
      obtain ⟨k, hk, e⟩ := hoth
      rw [e]; exact neg1_ne k (by omega)
    have eR : cGoR (sU s 5 3 (s 5 3 + nI 1)) (-1) g = sU s 5 3 (s 5 3 + nI 1) := by
      unfold cGoR
      rw [if_neg (fun e => e.elim (by decide) (fun e => e.1 rfl))]
    rw [eR]
    unfold cGoA
    have hs0 : sU s 5 3 (s 5 3 + nI 1) 5 0 = s 5 0 := rfl
    rw [if_neg hne, if_neg (by rw [hs0, e0, en, nI_leI (by decide) (by omega)]; omega)]
    exact hx.arrive c9 c8 (by omega) hnc hoth hok
  · rw [q.1, if_pos (by decide), if_pos (by decide), q.2.2.1, q.2.2.2.1]
    have eA : ∀ s', cGoA s' (-1) g = s' := fun s' => if_pos rfl
    obtain ⟨j, hj, ej⟩ := q.2.2.2.2
    rw [eA, ej]
    unfold cGoR
    by_cases hg1 : g = -1
    · rw [if_pos (Or.inr ⟨neg1_ne j (by omega), hg1⟩), if_neg (fun e => (tag_neg hok).mp e hg1)]
      exact hx.reach _
    · rw [if_neg (fun e => e.elim (nIne (by omega) (by omega) (by decide)) (fun e => hg1 e.2)), if_pos ((tag_neg hok).mpr hg1)]
      exact hx
  · rw [q.1, if_pos (by decide), if_neg (fun e => e rfl), q.2.2.1, q.2.2.2]
    have eA : ∀ s', cGoA s' (-1) g = s' := fun s' => if_pos rfl
    rw [eA]
    unfold cGoR
    rw [if_pos (Or.inl rfl), show nI 1 <<< (nI 6 &&& 31) = nI 64 from by decide]
    exact hx.reach _
theorem kR.fwd1 {σ τ s t : jS} {src : Nat} {tgt : Int32} (hZ : zR σ τ) (h : kR σ τ src tgt s t) {p nw k : Nat} {a b : Int32} (hp : p < 24) (hn : nw < 4) (hk : k < 4) (hab : (a = -1 ∧ b = nI 0) ∨ ∃ j, j < 4 ∧ a = nI j ∧ b = nI (j + 1)) :
    kR σ τ src tgt (cFwd1 p nw a k s) (mFwd1 p nw b k t) := by
  have hq : 4 * (p / 4) + k < 24 := by omega
  have hcond : (decide (a = -1) || decide (a = nI k)) = (decide (b = 0) || decide (b = nI (k + 1))) := by
    rcases hab with ⟨rfl, rfl⟩ | ⟨j, hj, rfl, rfl⟩
    · rw [decide_eq_true (show (-1 : Int32) = -1 from rfl), decide_eq_true (show nI 0 = 0 by decide), Bool.true_or, Bool.true_or]
    · rw [decide_eq_false (neg1_ne j (by omega)), decide_eq_false (show ¬ nI (j + 1) = 0 from fun e => absurd ((nI_eq (b := 0) (by omega) (by decide)).mp (e.trans (by decide))) (by omega)), Bool.false_or, Bool.false_or]
      exact decide_eq_decide.mpr (by rw [nI_eq (by omega) (by omega), nI_eq (by omega) (by omega)]; omega)
  unfold cFwd1 mFwd1
  rw [hcond, h.mem hZ hq, h.st hZ hq]
  by_cases h1 : (!decide (4 * (p / 4) + k = p) && (decide (b = 0) || decide (b = nI (k + 1)))) = true
  · rw [if_pos h1, h1, Bool.true_and]
    by_cases h2 : mIsMember t (4 * (p / 4) + k) (nI nw) = true
    · rw [if_pos h2, if_pos h2]
      by_cases h3 : mState t (4 * (p / 4) + k) = nI 3
      · rw [if_neg (show ¬ ¬ mState t (4 * (p / 4) + k) = nI 3 from fun e => e h3)]
        by_cases h4 : nI 60 ≤ t 0 9
        · rw [if_pos h4]
          unfold cGoOut
          rw [h.2.2.2.2.2.2.2.2.2.1, if_neg (Int32.not_lt.mpr h4)]
          exact h
        · rw [if_neg h4, if_neg (show ¬ ¬ mState t (4 * (p / 4) + k) = nI 3 from fun e => e h3)]
          exact h.go hZ hq hn h2 h4 h3
      · rw [if_pos h3, if_pos h3]
        split <;> exact h
    · rw [if_neg h2, if_neg h2]
      split <;> exact h
  · rw [if_neg h1, if_neg (fun e => h1 (by rw [Bool.and_eq_true] at e; exact e.1))]
    exact h
theorem kR.fwd {σ τ s t : jS} {src : Nat} {tgt : Int32} (hZ : zR σ τ) (h : kR σ τ src tgt s t) {p nw : Nat} {a b : Int32} (hp : p < 24) (hn : nw < 4) (hab : (a = -1 ∧ b = nI 0) ∨ ∃ j, j < 4 ∧ a = nI j ∧ b = nI (j + 1)) :
    ∀ k, k ≤ 4 → kR σ τ src tgt (forN (cFwd1 p nw a) s k) (forN (mFwd1 p nw b) t k) := by
  intro k
  induction k with
  | zero => exact fun _ => h
  | succ k ih => exact fun hk => (ih (by omega)).fwd1 hZ hp hn (by omega) hab
theorem kR.learn {σ τ s t : jS} {src : Nat} {tgt : Int32} (hZ : zR σ τ) (h : kR σ τ src tgt s t) {p v : Nat} (hp : p < 24) (hv : v < 4) (hs : src < 7) : kR σ τ src tgt (cLearn s p v src (s 3 2)) (mLearn t p v src) := by
  obtain ⟨hf, hg, h0, k5, k1, k2, hI, hJ, e0, e3, e4, ha, hE⟩ := h
  have hfl := cLearn_fr s p v src (s 3 2)
  have hgl := mLearn_fr t p v src
  have et : s 3 2 = t 0 3 := by rw [hf 3 (by decide), h0 3 (by decide)]; exact hZ.1.2.2.2.2.1
  have hix : (4 * (p / 4) + v) * 7 + src = 28 * (p / 4) + 7 * v + src := by omega
  refine ⟨hf.tr (hfl.wk (by decide)), hg.tr (hgl.wk (by decide)), fun i hi => ?_, ?_, ?_, ?_, hI.of_fr hfl (by decide) (by decide), mLearn_ok hJ _ _ _, ?_, ?_, ?_, fun i hi => ?_, fun e he => ?_⟩
  · rw [hgl 0 (by decide)]; exact h0 i hi
  · rw [hfl 5 (by decide)]; exact k5
  · rw [hfl 5 (by decide)]; exact k1
  · rw [hfl 5 (by decide)]; exact k2
  · rw [hfl 5 (by decide), hgl 0 (by decide)]; exact e0
  · rw [hfl 5 (by decide), hgl 0 (by decide)]; exact e3
  · rw [hfl 5 (by decide), hgl 0 (by decide)]; exact e4
  · rw [hgl 0 (by decide)] at hi
    rw [hfl 33 (by decide), hfl 34 (by decide), hgl 28 (by decide), hgl 29 (by decide)]; exact ha i hi
  · unfold cLearn mLearn
    rw [sU_ne (k := 32) (j := 31) _ _ _ (by decide), sU_eq, sU_eq, sU_ne (k := 31) (j := 32) _ _ _ (by decide), sU_ne (k := 27) (j := 26) _ _ _ (by decide), sU_eq, sU_eq, sU_ne (k := 26) (j := 27) _ _ _ (by decide), hix, et]
    by_cases e1 : e = 28 * (p / 4) + 7 * v + src
    · rw [if_pos e1, if_pos e1, if_pos e1, if_pos e1]
      exact ⟨Or.inr ⟨p % 4, by omega, rfl, rfl⟩, rfl⟩
    · rw [if_neg e1, if_neg e1, if_neg e1, if_neg e1]
      exact hE e he
