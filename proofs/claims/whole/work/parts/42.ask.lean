/-! ask -/
def aQ (σ τ s t : jS) : Prop := zR s t ∧ s 11 = σ 11 ∧ t 0 7 = τ 0 7
theorem aQ.host {σ τ s t : jS} (h : aQ σ τ s t) {f : Nat} {to : Int32} (nw : Int32) (hf : f < 6) (ht : okQ 7 to) : aQ σ τ (cCarH s f to) (mR t f to nw) ∧ cCarH s f to 5 4 = mR t f to nw 0 10 := by
  have h7 : mR t f to nw 0 7 = t 0 7 := mR_07e t f to nw
  have e : mR t f to nw = mFrame t (t 14 f) (-1) f to := if_neg (by omega)
  have hr := frame_rel h.1 (src := f) (by omega) ht (h.1.qT.2.1.at_ hf) (Or.inl rfl)
  unfold cCarH
  rw [(h.1.2.2.2.2.1 f hf).1]
  rw [e] at h7 ⊢
  exact ⟨⟨hr.1, hr.2.2.trans h.2.1, h7.trans h.2.2⟩, hr.2.1⟩
theorem aQ.rout {σ τ s t : jS} (h : aQ σ τ s t) {nw to : Int32} (hr : 0 ≤ τ 0 7) (hn : okP 4 nw) (ht : okQ 7 to) : aQ σ τ (cCarR s nw to) (mR t 6 to nw) ∧ cCarV s nw to = mR t 6 to nw 0 10 := by
  have h7 : mR t 6 to nw 0 7 = t 0 7 := mR_07e t 6 to nw
  have e : mR t 6 to nw = mFrame t (t 0 7) (if ¬ nw = t 8 (t 0 7).toNatClampNeg then nw else -1) 6 to := if_pos (by decide)
  have hne : ¬ t 0 7 = -1 := by rw [h.2.2]; exact ne_neg hr
  have hok : okP 24 (t 0 7) := h.1.qT.2.1.rt.resolve_left hne
  have hp := (hok.cl (by decide)).1
  have e13 : s 1 3 = t 0 7 := h.1.2.1.1.2.2
  have etag : cTagOut s (t 0 7).toNatClampNeg nw = if ¬ nw = t 8 (t 0 7).toNatClampNeg then nw else -1 := by
    unfold cTagOut
    rw [(h.1.2.2.2.2.2.1 _ hp).1]
    by_cases q : nw = t 8 (t 0 7).toNatClampNeg
    · rw [if_pos q.symm, if_neg (fun a => a q)]
    · rw [if_neg (fun a => q a.symm), if_pos q]
  have hg : okQ 4 (if ¬ nw = t 8 (t 0 7).toNatClampNeg then nw else -1) := by
    split
    · exact Or.inr hn
    · exact Or.inl rfl
  have hr := frame_rel h.1 (src := 6) (by omega) ht hok hg
  unfold cCarR cCarV
  rw [e13, if_pos hne, if_pos hne, etag]
  rw [e] at h7 ⊢
  exact ⟨⟨hr.1, hr.2.2.trans h.2.1, h7.trans h.2.2⟩, hr.2.1⟩
def aR (σ τ : jS) (p : jS × Nat) (q : jS × Int32) : Prop := aQ σ τ p.1 q.1 ∧ p.2 ≤ 8 ∧ q.2 = nI p.2
theorem aR.stp {σ τ S T : jS} {B : Bool} {i : Nat} {K : jS × Nat} {K' : jS × Int32} (hi : i ≤ 8) (h : aQ σ τ S T) (hk : aR σ τ K K') : aR σ τ (if B = true then K else (S, i)) (if B = true then K' else (T, nI i)) := by
  by_cases e : B = true
  · rw [if_pos e, if_pos e]; exact hk
  · rw [if_neg e, if_neg e]; exact ⟨h, hi, rfl⟩
theorem aR.end {σ τ S T : jS} {B : Bool} {i : Nat} (hi : i ≤ 7) (h : aQ σ τ S T) : aR σ τ (if B = true then (S, i + 1) else (S, i)) (T, if B = true then nI (i + 1) else nI i) := by
  by_cases e : B = true
  · rw [if_pos e, if_pos e]; exact ⟨h, by omega, rfl⟩
  · rw [if_neg e, if_neg e]; exact ⟨h, by omega, rfl⟩
theorem runD {f t n i : Nat} {s : jS} : cAskRun false f t (n + 1) i s = if cDirB s i f t = true then cAskRun false f t n (i + 1) (cDirS s i f t) else (cDirS s i f t, i) := rfl
theorem runR {f t n i : Nat} {s : jS} : cAskRun true f t (n + 1) i s = if cRouB s i f t = true then cAskRun true f t n (i + 1) (cRouS s i f t) else (cRouS s i f t, i) := rfl
theorem askN_rel {σ τ s t : jS} {f g : Nat} (h : aQ σ τ s t) (hf : f < 6) (hg : g < 6) : aR σ τ (cAskRun false f g 4 0 s) (mAskN t f g) := by
  unfold mAskN
  have n1 : okQ 7 (-1) := Or.inl rfl
  have nf : okQ 7 (nI f) := okQn (by omega)
  have ng : okQ 7 (nI g) := okQn (by omega)
  obtain ⟨a1, b1⟩ := h.host (nI 0) hf n1
  rw [runD, show cDirB s 0 f g = mRB t f (-1) (nI 0) (nI g) from congrArg (fun z => cHasBit z (nI g)) b1, show cDirS s 0 f g = cCarH s f (-1) from rfl]
  refine aR.stp (by decide) a1 ?_
  generalize cCarH s f (-1) = s1 at a1 ⊢
  generalize mR t f (-1) (nI 0) = t1 at a1 ⊢
  obtain ⟨a2, b2⟩ := a1.host (nI 0) hg nf
  rw [runD, show cDirB s1 (0 + 1) f g = mRB t1 g (nI f) (nI 0) (nI f) from congrArg (fun z => cHasBit z (nI f)) b2, show cDirS s1 (0 + 1) f g = cCarH s1 g (nI f) from rfl]
  refine aR.stp (i := 1) (by decide) a2 ?_
  generalize cCarH s1 g (nI f) = s2 at a2 ⊢
  generalize mR t1 g (nI f) (nI 0) = t2 at a2 ⊢
  obtain ⟨a3, b3⟩ := a2.host (nI 0) hf ng
  rw [runD, show cDirB s2 (0 + 1 + 1) f g = mRB t2 f (nI g) (nI 0) (nI g) from congrArg (fun z => cHasBit z (nI g)) b3, show cDirS s2 (0 + 1 + 1) f g = cCarH s2 f (nI g) from rfl]
  refine aR.stp (i := 2) (by decide) a3 ?_
  generalize cCarH s2 f (nI g) = s3 at a3 ⊢
  generalize mR t2 f (nI g) (nI 0) = t3 at a3 ⊢
  obtain ⟨a4, b4⟩ := a3.host (nI 0) hg nf
  rw [runD, show cDirB s3 (0 + 1 + 1 + 1) f g = mRB t3 g (nI f) (nI 0) (nI f) from congrArg (fun z => cHasBit z (nI f)) b4, show cDirS s3 (0 + 1 + 1 + 1) f g = cCarH s3 g (nI f) from rfl]
  exact aR.end (i := 3) (by decide) a4
theorem askX_rel {σ τ s t : jS} {f g : Nat} (h : aQ σ τ s t) (hr : 0 ≤ τ 0 7) (hf : f < 6) (hg : g < 6) (hZ : zR σ τ) : aR σ τ (cAskRun true f g 8 0 s) (mAskX t f g (τ 15 f) (τ 15 g)) := by
  have n1 : okQ 7 (-1) := Or.inl rfl
  have n6 : okQ 7 (nI 6) := okQn (by decide)
  have nf : okQ 7 (nI f) := okQn (by omega)
  have ng : okQ 7 (nI g) := okQn (by omega)
  have wf : okP 4 (τ 15 f) := hZ.qT.2.1.sn hf
  have wg : okP 4 (τ 15 g) := hZ.qT.2.1.sn hg
  have ef : ∀ {s' t' : jS}, aQ σ τ s' t' → s' 11 f = τ 15 f := fun q => by rw [q.2.1]; exact (hZ.2.2.2.2.1 f hf).2
  have eg : ∀ {s' t' : jS}, aQ σ τ s' t' → s' 11 g = τ 15 g := fun q => by rw [q.2.1]; exact (hZ.2.2.2.2.1 g hg).2
  unfold mAskX mStp
  obtain ⟨a1, b1⟩ := h.host (nI 0) hf n1
  rw [runR, show cRouB s 0 f g = mRB t f (-1) (nI 0) (nI 6) from congrArg (fun z => cHasBit z (nI 6)) b1, show cRouS s 0 f g = cCarH s f (-1) from rfl]
  refine aR.stp (by decide) a1 ?_
  generalize cCarH s f (-1) = s1 at a1 ⊢
  generalize mR t f (-1) (nI 0) = t1 at a1 ⊢
  obtain ⟨a2, b2⟩ := a1.rout hr wf nf
  rw [runR, show cRouB s1 (0 + 1) f g = cHasBit (cCarV s1 (s1 11 f) (nI f)) (nI f) from rfl, show cRouS s1 (0 + 1) f g = cCarR s1 (s1 11 f) (nI f) from rfl, ef a1, b2]
  refine aR.stp (i := 1) (by decide) a2 ?_
  generalize cCarR s1 (τ 15 f) (nI f) = s2 at a2 ⊢
  generalize mR t1 6 (nI f) (τ 15 f) = t2 at a2 ⊢
  obtain ⟨a3, b3⟩ := a2.host (nI 0) hf n6
  rw [runR, show cRouB s2 (0 + 1 + 1) f g = mRB t2 f (nI 6) (nI 0) (nI 6) from congrArg (fun z => cHasBit z (nI 6)) b3, show cRouS s2 (0 + 1 + 1) f g = cCarH s2 f (nI 6) from rfl]
  refine aR.stp (i := 2) (by decide) a3 ?_
  generalize cCarH s2 f (nI 6) = s3 at a3 ⊢
  generalize mR t2 f (nI 6) (nI 0) = t3 at a3 ⊢
  obtain ⟨a4, b4⟩ := a3.rout hr wg n1
  rw [runR, show cRouB s3 (0 + 1 + 1 + 1) f g = cHasBit (cCarV s3 (s3 11 g) (-1)) (nI g) from rfl, show cRouS s3 (0 + 1 + 1 + 1) f g = cCarR s3 (s3 11 g) (-1) from rfl, eg a3, b4]
  refine aR.stp (i := 3) (by decide) a4 ?_
  generalize cCarR s3 (τ 15 g) (-1) = s4 at a4 ⊢
  generalize mR t3 6 (-1) (τ 15 g) = t4 at a4 ⊢
  obtain ⟨a5, b5⟩ := a4.host (nI 0) hg n6
  rw [runR, show cRouB s4 (0 + 1 + 1 + 1 + 1) f g = mRB t4 g (nI 6) (nI 0) (nI 6) from congrArg (fun z => cHasBit z (nI 6)) b5, show cRouS s4 (0 + 1 + 1 + 1 + 1) f g = cCarH s4 g (nI 6) from rfl]
  refine aR.stp (i := 4) (by decide) a5 ?_
  generalize cCarH s4 g (nI 6) = s5 at a5 ⊢
  generalize mR t4 g (nI 6) (nI 0) = t5 at a5 ⊢
  obtain ⟨a6, b6⟩ := a5.rout hr wg ng
  rw [runR, show cRouB s5 (0 + 1 + 1 + 1 + 1 + 1) f g = cHasBit (cCarV s5 (s5 11 g) (nI g)) (nI g) from rfl, show cRouS s5 (0 + 1 + 1 + 1 + 1 + 1) f g = cCarR s5 (s5 11 g) (nI g) from rfl, eg a5, b6]
  refine aR.stp (i := 5) (by decide) a6 ?_
  generalize cCarR s5 (τ 15 g) (nI g) = s6 at a6 ⊢
  generalize mR t5 6 (nI g) (τ 15 g) = t6 at a6 ⊢
  obtain ⟨a7, b7⟩ := a6.host (nI 0) hg n6
  rw [runR, show cRouB s6 (0 + 1 + 1 + 1 + 1 + 1 + 1) f g = mRB t6 g (nI 6) (nI 0) (nI 6) from congrArg (fun z => cHasBit z (nI 6)) b7, show cRouS s6 (0 + 1 + 1 + 1 + 1 + 1 + 1) f g = cCarH s6 g (nI 6) from rfl]
  refine aR.stp (i := 6) (by decide) a7 ?_
  generalize cCarH s6 g (nI 6) = s7 at a7 ⊢
  generalize mR t6 g (nI 6) (nI 0) = t7 at a7 ⊢
  obtain ⟨a8, b8⟩ := a7.rout hr wf nf
  rw [runR, show cRouB s7 (0 + 1 + 1 + 1 + 1 + 1 + 1 + 1) f g = cHasBit (cCarV s7 (s7 11 f) (nI f)) (nI f) from rfl, show cRouS s7 (0 + 1 + 1 + 1 + 1 + 1 + 1 + 1) f g = cCarR s7 (s7 11 f) (nI f) from rfl, ef a7, b8]
  exact aR.end (i := 7) (by decide) a8
theorem dir_eq {σ τ : jS} (h : zR σ τ) {f g : Nat} (hf : f < 6) (hg : g < 6) : cAskR σ f g = !mDir τ f g := by
  unfold cAskR mDir
  rw [(h.2.2.2.2.1 f hf).2, (h.2.2.2.2.1 g hg).2]
  by_cases e : τ 15 f = τ 15 g <;> simp [e]
theorem ask_eq {σ τ : jS} (h : zR σ τ) (x y : Int32) : cAskB σ x y = mAskB τ x y := by
  unfold cAskB mAskB
  rw [host_eq h, host_eq h, hasR_eq h]
  by_cases hx : mIsHost τ x = true
  · by_cases hy : mIsHost τ y = true
    · obtain ⟨f, rfl, hf⟩ := mHost_at h.qT.2.1 hx
      obtain ⟨g, rfl, hg⟩ := mHost_at h.qT.2.1 hy
      rw [nI_clamp (n := f) (by omega), nI_clamp (n := g) (by omega), dir_eq h hf hg, Bool.not_not]
    · rw [Bool.eq_false_iff.mpr hy, Bool.and_false]; rfl
  · rw [Bool.eq_false_iff.mpr hx]; rfl
theorem ask_rel {σ τ : jS} (h : zR σ τ) {x y v : Int32} (hb : mAskB τ x y = true) :
    nI (cAskF σ x.toNatClampNeg y.toNatClampNeg).2 = (mAskF τ x.toNatClampNeg y.toNatClampNeg).2 ∧ zR (cAskSt σ x.toNatClampNeg y.toNatClampNeg v) (mAskSt τ x.toNatClampNeg y.toNatClampNeg v) := by
  unfold mAskB at hb
  rw [Bool.and_eq_true, Bool.and_eq_true] at hb
  obtain ⟨⟨hx, hy⟩, hz⟩ := hb
  obtain ⟨f, rfl, hf⟩ := mHost_at h.qT.2.1 hx
  obtain ⟨g, rfl, hg⟩ := mHost_at h.qT.2.1 hy
  rw [nI_clamp (n := f) (by omega), nI_clamp (n := g) (by omega)] at hz ⊢
  have hZ := h.zero (nI 0)
  have hq : aQ (sU σ 5 5 (nI 0)) (sU τ 0 11 (nI 0)) (sU σ 5 5 (nI 0)) (sU τ 0 11 (nI 0)) := ⟨hZ, rfl, rfl⟩
  have hd := dir_eq h hf hg
  have hR : aR (sU σ 5 5 (nI 0)) (sU τ 0 11 (nI 0)) (cAskF σ f g) (mAskF τ f g) ∧ nI (cAskDue (cAskR σ f g)) = nI (if mDir τ f g = false then 8 else 4) ∧ cAskDue (cAskR σ f g) ≤ 8 := by
    unfold cAskF mAskF
    rw [hd]
    by_cases e : mDir τ f g = true
    · rw [e, if_pos rfl]
      exact ⟨askN_rel hq hf hg, rfl, by decide⟩
    · have e' : mDir τ f g = false := Bool.eq_false_iff.mpr e
      rw [e', Bool.false_or, decide_eq_true_eq] at hz
      rw [e', if_neg (by decide)]
      exact ⟨askX_rel hq hz hf hg hZ, rfl, by decide⟩
  obtain ⟨⟨hQ, h8, e2⟩, e3, e4⟩ := hR
  refine ⟨e2.symm, ?_⟩
  unfold cAskSt mAskSt
  rw [e2, ← e3]
  by_cases e : (cAskF σ f g).2 = cAskDue (cAskR σ f g)
  · rw [if_pos e, if_neg (fun q => q (by rw [e]))]
    exact hQ.1.ans _
  · rw [if_neg e, if_pos (fun q => e ((nI_eq (by omega) (by omega)).mp q))]
    exact hQ.1
