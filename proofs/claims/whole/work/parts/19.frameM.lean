/-! the reference's frames -/
def mArrive (τ : jS) (p tag : Int32) : jS := sU (sU (sU τ 28 (τ 0 8).toNatClampNeg p) 29 (τ 0 8).toNatClampNeg tag) 0 8 (τ 0 8 + nI 1)
def mTag (τ : jS) (p : Nat) (nw : Int32) : Int32 := if τ 7 p = 0 then -1 else if ¬ nw = τ 8 p then nw else -1
def mCross (τ : jS) : jS := sU τ 0 9 (τ 0 9 + nI 1)
def mGoOut (τ : jS) (p : Nat) (nw : Int32) : jS :=
  if ¬ τ 5 p = nI 1 then
    (if ¬ τ 5 p = nI 3 then (if 0 ≤ mTag τ p nw then mCross τ else sU (mCross τ) 0 10 (mCross τ 0 10 ||| (nI 1 <<< (τ 6 p &&& 31)))) else sU (mCross τ) 0 10 (mCross τ 0 10 ||| nI 64))
  else mArrive (mCross τ) (mOther (mCross τ) p) (mTag τ p nw)
def mIsMember (τ : jS) (p : Nat) (nw : Int32) : Bool := ((τ 9 p >>> (nw &&& 31)) &&& nI 1) == nI 1
def mNet (τ : jS) (p : Nat) (tag : Int32) : Int32 := if 0 ≤ tag then tag else τ 8 p
def mHandB (τ : jS) (p : Nat) (tag : Int32) : Bool :=
  !decide (mState τ p < nI 2) && (decide (tag < 0) || !decide (τ 7 p = 0)) && mIsMember τ p (nI (mNet τ p tag).toNatClampNeg)
def mLearn (τ : jS) (p nw src : Nat) : jS := sU (sU τ 26 ((4 * (p / 4) + nw) * 7 + src) (nI (p % 4 + 1))) 27 ((4 * (p / 4) + nw) * 7 + src) (τ 0 3)
def mKnown (τ : jS) (p nw : Nat) (tgt : Int32) : Int32 := if 0 ≤ tgt then τ 26 ((4 * (p / 4) + nw) * 7 + tgt.toNatClampNeg) else nI 0
def mFwd1 (p nw : Nat) (kn : Int32) (k : Nat) (τ : jS) : jS :=
  if (!decide (4 * (p / 4) + k = p) && (decide (kn = 0) || decide (kn = nI (k + 1))) && mIsMember τ (4 * (p / 4) + k) (nI nw)) = true then
    (if nI 60 ≤ τ 0 9 then τ else if ¬ mState τ (4 * (p / 4) + k) = nI 3 then τ else mGoOut τ (4 * (p / 4) + k) (nI nw))
  else τ
def mFwd (τ : jS) (p nw : Nat) (tgt : Int32) : jS := forN (mFwd1 p nw (mKnown τ p nw tgt)) τ 4
def mHandG (τ : jS) (p nw src : Nat) (tgt : Int32) : jS :=
  if ¬ mState τ p = nI 2 then mFwd (mLearn τ p nw src) p nw tgt else mLearn τ p nw src
def mHandle (τ : jS) (p : Nat) (tag : Int32) (src : Nat) (tgt : Int32) : jS :=
  if mHandB τ p tag = true then mHandG τ p (mNet τ p tag).toNatClampNeg src tgt else τ
def mRun (src : Nat) (tgt : Int32) (i : Nat) : Nat → jS → jS
  | 0, τ => τ
  | f + 1, τ => if τ 0 8 ≤ nI i then τ else mRun src tgt (i + 1) f (mHandle τ (τ 28 i).toNatClampNeg (τ 29 i) src tgt)
def mStart (τ : jS) (p tag : Int32) : jS := mArrive (sU (sU (sU τ 0 8 (nI 0)) 0 9 (nI 0)) 0 10 (nI 0)) p tag
def mFin (τ : jS) : jS := sU τ 0 11 (τ 0 11 + τ 0 9)
def mFrame (τ : jS) (p tag : Int32) (src : Nat) (tgt : Int32) : jS := mFin (mRun src tgt 0 64 (mStart τ p tag))
def mOkS (τ : jS) : Prop := mInv τ ∧ ∃ c n, τ 0 9 = nI c ∧ τ 0 8 = nI n ∧ c ≤ 60 ∧ n ≤ c + 1
theorem mInv.arr {τ : jS} (hI : mInv τ) {i : Nat} {x t v : Int32} (hx : okP 24 x) (ht : okQ 4 t) : mInv (sU (sU (sU τ 28 i x) 29 i t) 0 8 v) :=
  ⟨hI.1, hI.2.1, hI.2.2.1, hI.2.2.2.1, hI.2.2.2.2.1, hI.2.2.2.2.2.1, hI.2.2.2.2.2.2.1, hI.2.2.2.2.2.2.2.1, hI.2.2.2.2.2.2.2.2.1, hI.2.2.2.2.2.2.2.2.2.1, hI.2.2.2.2.2.2.2.2.2.2.1, okP_set hI.2.2.2.2.2.2.2.2.2.2.2.1 hx, okQ_set hI.2.2.2.2.2.2.2.2.2.2.2.2 ht⟩
theorem mTag_ok {τ : jS} {p : Nat} {nw : Int32} (h : okP 4 nw) : okQ 4 (mTag τ p nw) := by
  unfold mTag
  split
  · exact Or.inl rfl
  · split
    · exact Or.inr h
    · exact Or.inl rfl
theorem mOkS.cnt {τ : jS} (h : mOkS τ) (h2 : ¬ nI 60 ≤ τ 0 9) : vp_in (τ 0 8) 64 := by
  obtain ⟨-, c, n, e9, e8, hc, hn⟩ := h
  have : ¬ 60 ≤ c := fun e => h2 (by rw [e9]; exact nI_le e (by omega))
  rw [e8]
  exact vp_in_nI (by omega) (by decide)
theorem mCross_inv {τ : jS} (hI : mInv τ) : mInv (mCross τ) := hI.u0 (by decide) (by decide) (by decide) (by decide)
theorem mGoOut_ok {τ : jS} (h : mOkS τ) {p : Nat} (hp : p < 24) {nw : Int32} (hn : okP 4 nw) (h2 : ¬ nI 60 ≤ τ 0 9) : mOkS (mGoOut τ p nw) := by
  obtain ⟨hI, c, n, e9, e8, hc, hnc⟩ := h
  have hc2 : ¬ 60 ≤ c := fun e => h2 (by rw [e9]; exact nI_le e (by omega))
  have hI1 := mCross_inv hI
  have x9 : mCross τ 0 9 = nI (c + 1) := by
    show τ 0 9 + nI 1 = _
    rw [e9, nI_add]
  have x8 : mCross τ 0 8 = nI n := e8
  unfold mGoOut
  split
  · split
    · split
      · exact ⟨hI1, c + 1, n, x9, x8, by omega, by omega⟩
      · exact ⟨hI1.u0 (by decide) (by decide) (by decide) (by decide), c + 1, n, x9, x8, by omega, by omega⟩
    · exact ⟨hI1.u0 (by decide) (by decide) (by decide) (by decide), c + 1, n, x9, x8, by omega, by omega⟩
  · refine ⟨hI1.arr (mOther_ok hI1 hp) (mTag_ok hn), c + 1, n + 1, x9, ?_, by omega, by omega⟩
    show mCross τ 0 8 + nI 1 = _
    rw [x8, nI_add]
theorem mFwd1_ok {τ : jS} (h : mOkS τ) {p nw k : Nat} (kn : Int32) (hp : p < 24) (hn : nw < 4) (hk : k < 4) : mOkS (mFwd1 p nw kn k τ) := by
  unfold mFwd1
  split
  · split
    · exact h
    · rename_i h2
      split
      · exact h
      · exact mGoOut_ok h (by omega) ⟨nw, hn, rfl⟩ h2
  · exact h
theorem mFwdN_ok {τ : jS} (h : mOkS τ) {p nw : Nat} (kn : Int32) (hp : p < 24) (hn : nw < 4) : ∀ k, k ≤ 4 → mOkS (forN (mFwd1 p nw kn) τ k) := by
  intro k
  induction k with
  | zero => exact fun _ => h
  | succ k ih => exact fun hk => mFwd1_ok (ih (by omega)) kn hp hn (by omega)
theorem mNet_ok {τ : jS} (hI : mInv τ) {p : Nat} (hp : p < 24) {tag : Int32} (ht : okQ 4 tag) : okP 4 (mNet τ p tag) := by
  unfold mNet
  split
  · rename_i h
    refine ht.resolve_left (fun e => ?_)
    rw [e] at h
    exact absurd h (by decide)
  · exact hI.own hp
theorem mLearn_fr (τ : jS) (p nw src : Nat) : fr [26, 27] τ (mLearn τ p nw src) := (fr.rf.u (by decide) _ _).u (by decide) _ _
theorem mLearn_ok {τ : jS} (h : mOkS τ) (p nw src : Nat) : mOkS (mLearn τ p nw src) := ⟨h.1.of_fr (mLearn_fr _ _ _ _) (by decide), h.2⟩
theorem mHandG_ok {τ : jS} (h : mOkS τ) {p nw : Nat} (hp : p < 24) (hn : nw < 4) (src : Nat) (tgt : Int32) : mOkS (mHandG τ p nw src tgt) := by
  unfold mHandG
  split
  · exact mFwdN_ok (mLearn_ok h p nw src) _ hp hn 4 (Nat.le_refl _)
  · exact mLearn_ok h p nw src
theorem mHandle_ok {τ : jS} (h : mOkS τ) {p : Nat} (hp : p < 24) {tag : Int32} (ht : okQ 4 tag) (src : Nat) (tgt : Int32) : mOkS (mHandle τ p tag src tgt) := by
  unfold mHandle
  split
  · exact mHandG_ok h hp ((mNet_ok h.1 hp ht).cl (by decide)).1 src tgt
  · exact h
theorem mRun_stop {src : Nat} {tgt : Int32} {i f : Nat} {τ : jS} (h : τ 0 8 ≤ nI i) : mRun src tgt i f τ = τ := by
  cases f with
  | zero => rfl
  | succ f => exact if_pos h
theorem mRun_go {src : Nat} {tgt : Int32} {i f : Nat} {τ : jS} (h : ¬ τ 0 8 ≤ nI i) : mRun src tgt i (f + 1) τ = mRun src tgt (i + 1) f (mHandle τ (τ 28 i).toNatClampNeg (τ 29 i) src tgt) := if_neg h
theorem mRun_ok (src : Nat) (tgt : Int32) : ∀ (f i : Nat) (τ : jS), i + f = 64 → mOkS τ → mOkS (mRun src tgt i f τ) := by
  intro f
  induction f with
  | zero => exact fun _ _ _ h => h
  | succ f ih =>
    intro i τ hi h
    by_cases h1 : τ 0 8 ≤ nI i
    · rw [mRun_stop h1]; exact h
    · rw [mRun_go h1]
      exact ih (i + 1) _ (by omega) (mHandle_ok h ((h.1.ln (i := i) (by omega)).cl (by decide)).1 (h.1.lt (by omega)) src tgt)
theorem mStart_ok {τ : jS} (hI : mInv τ) {p tag : Int32} (hp : okP 24 p) (ht : okQ 4 tag) : mOkS (mStart τ p tag) := by
  have h1 : mInv (sU (sU (sU τ 0 8 (nI 0)) 0 9 (nI 0)) 0 10 (nI 0)) := ((hI.u0 (by decide) (by decide) (by decide) (by decide)).u0 (by decide) (by decide) (by decide) (by decide)).u0 (by decide) (by decide) (by decide) (by decide)
  refine ⟨h1.arr hp ht, 0, 1, rfl, ?_, by decide, by decide⟩
  show nI 0 + nI 1 = _
  rw [nI_add]
theorem mFrame_inv {τ : jS} (hI : mInv τ) {p tag : Int32} (hp : okP 24 p) (ht : okQ 4 tag) (src : Nat) (tgt : Int32) : mInv (mFrame τ p tag src tgt) := (mRun_ok src tgt 64 0 _ rfl (mStart_ok hI hp ht)).1.u0 (by decide) (by decide) (by decide) (by decide)
def mR (τ : jS) (f : Nat) (to nw : Int32) : jS :=
  if 6 ≤ f then mFrame τ (τ 0 7) (if ¬ nw = τ 8 (τ 0 7).toNatClampNeg then nw else -1) 6 to else mFrame τ (τ 14 f) (-1) f to
def mRB (τ : jS) (f : Nat) (to nw whom : Int32) : Bool := cHasBit (mR τ f to nw 0 10) whom
def mAskN (τ : jS) (f t : Nat) : jS × Int32 :=
  if mRB τ f (-1) (nI 0) (nI t) = true then
    (if mRB (mR τ f (-1) (nI 0)) t (nI f) (nI 0) (nI f) = true then
      (if mRB (mR (mR τ f (-1) (nI 0)) t (nI f) (nI 0)) f (nI t) (nI 0) (nI t) = true then
        (mR (mR (mR (mR τ f (-1) (nI 0)) t (nI f) (nI 0)) f (nI t) (nI 0)) t (nI f) (nI 0),
          if mRB (mR (mR (mR τ f (-1) (nI 0)) t (nI f) (nI 0)) f (nI t) (nI 0)) t (nI f) (nI 0) (nI f) = true then nI 4 else nI 3)
      else (mR (mR (mR τ f (-1) (nI 0)) t (nI f) (nI 0)) f (nI t) (nI 0), nI 2))
    else (mR (mR τ f (-1) (nI 0)) t (nI f) (nI 0), nI 1))
  else (mR τ f (-1) (nI 0), nI 0)
theorem mR_inv {τ : jS} (hI : mInv τ) {f : Nat} {to nw : Int32} (hf : f < 7) (hr : f = 6 → okP 24 (τ 0 7)) (hn : okP 4 nw) : mInv (mR τ f to nw) := by
  unfold mR
  split
  · refine mFrame_inv hI (hr (by omega)) ?_ 6 to
    split
    · exact Or.inr hn
    · exact Or.inl rfl
  · exact mFrame_inv hI (hI.at_ (by omega)) (Or.inl rfl) f to

theorem ne_neg {x : Int32} (h : 0 ≤ x) : ¬ x = -1 := fun e => by rw [e] at h; exact absurd h (by decide)
set_option maxHeartbeats 4000000 in
set_option maxRecDepth 100000 in
theorem mM_arrive (l : Launch) (D : va_G) (a : Nat → Nat) (cI cZ : ClassId) (τ : jS) (p : Int32) (tag : Int32) (hA : vp_in (τ 0 8) 64) : jV l yM_arrive w_M_arrive (rmD 0) D (jTys cI cZ) [.ref (a 0), .int (p), .int (tag)] (wM a cI cZ τ) (wM a cI cZ (mArrive τ p tag)) := by
  refine jV_of (ws' := jG) (by decide) rfl (Nat.le_of_ble_eq_true rfl) ?_
  intro X hF hk
  show jJ l D (rmD 0) 3 X (wM a cI cZ τ) 0 [(0, .ref (a 0)), (1, .int (p)), (2, .int (tag))] []
  refine jq_aload_n (pc := 0) hF 0 dM_arrive_0 rfl ?_
  refine Mg_M_96 (pc := 1) hF dM_arrive_1 ?_
  refine jq_aload_n (pc := 4) hF 0 dM_arrive_4 rfl ?_
  refine Mg_M_194 (pc := 5) hF dM_arrive_5 ?_
  refine jq_iload_n (pc := 8) hF 1 dM_arrive_8 rfl ?_
  refine MS_28 (pc := 9) hF (hA) dM_arrive_9 ?_
  refine jq_aload_n (pc := 10) hF 0 dM_arrive_10 rfl ?_
  refine Mg_M_99 (pc := 11) hF dM_arrive_11 ?_
  refine jq_aload_n (pc := 14) hF 0 dM_arrive_14 rfl ?_
  refine Mg_M_194 (pc := 15) hF dM_arrive_15 ?_
  refine jq_iload_n (pc := 18) hF 2 dM_arrive_18 rfl ?_
  refine MS_29 (pc := 19) hF (hA) dM_arrive_19 ?_
  refine jq_aload_n (pc := 20) hF 0 dM_arrive_20 rfl ?_
  refine jq_dup (pc := 21) hF dM_arrive_21 rfl ?_
  refine Mg_M_194 (pc := 22) hF dM_arrive_22 ?_
  refine jq_iconst (pc := 25) hF dM_arrive_25 ic_1 ?_
  refine jq_iadd (pc := 26) hF dM_arrive_26 ?_
  refine Mp_M_194 (pc := 27) hF dM_arrive_27 ?_
  exact jq_at (hk 30 _ dM_arrive_30) (congrArg (wM a cI cZ) (by rfl)) rfl rfl rfl
set_option maxHeartbeats 4000000 in
set_option maxRecDepth 100000 in
theorem mM_goOut (l : Launch) (D : va_G) (a : Nat → Nat) (cI cZ : ClassId) (τ : jS) (p : Nat) (nw : Int32) (hp : p < 24) (hA : vp_in (τ 0 8) 64) (hI : mInv τ) : jV l yM_goOut w_M_goOut (rmD 1) D (jTys cI cZ) [.ref (a 0), .int (nI p), .int (nw)] (wM a cI cZ τ) (wM a cI cZ (mGoOut τ p nw)) := by
  refine jV_of (ws' := jG) (by decide) rfl (Nat.le_of_ble_eq_true rfl) ?_
  intro X hF hk
  show jJ l D (rmD 1) 4 X (wM a cI cZ τ) 0 [(0, .ref (a 0)), (1, .int (nI p)), (2, .int (nw))] []
  have j24 : jJ l D (rmD 1) 4 X (wM a cI cZ τ) 24 [(0, .ref (a 0)), (1, .int (nI p)), (2, .int (nw))] [.int (mTag τ p nw)] := by
    refine jq_istore_n (pc := 24) hF [(3, .int (mTag τ p nw)), (0, .ref (a 0)), (1, .int (nI p)), (2, .int (nw))] dM_goOut_24 (Nat.le_of_ble_eq_true rfl) rfl ?_
    refine jq_aload_n (pc := 25) hF 1 dM_goOut_25 rfl ?_
    refine jq_dup (pc := 26) hF dM_goOut_26 rfl ?_
    refine Mg_M_197 (pc := 27) hF dM_goOut_27 ?_
    refine jq_iconst (pc := 30) hF dM_goOut_30 ic_1 ?_
    refine jq_iadd (pc := 31) hF dM_goOut_31 ?_
    refine Mp_M_197 (pc := 32) hF dM_goOut_32 ?_
    refine jq_w (wM a cI cZ (mCross τ)) (congrArg (wM a cI cZ) (by rfl)) ?_
    refine jq_aload_n (pc := 35) hF 1 dM_goOut_35 rfl ?_
    refine Mg_M_23 (pc := 36) hF dM_goOut_36 ?_
    refine jq_iload_n (pc := 39) hF 2 dM_goOut_39 rfl ?_
    refine Ml_5 (pc := 40) hF (by omega) dM_goOut_40 ?_
    refine jq_iconst (pc := 41) hF dM_goOut_41 ic_1 ?_
    refine jq_icmp_ne (pc := 42) hF 58 dM_goOut_42 rfl (fun h42 => ?_) (fun h42 => ?_)
    · refine jq_aload_n (pc := 58) hF 1 dM_goOut_58 rfl ?_
      refine Mg_M_23 (pc := 59) hF dM_goOut_59 ?_
      refine jq_iload_n (pc := 62) hF 2 dM_goOut_62 rfl ?_
      refine Ml_5 (pc := 63) hF (by omega) dM_goOut_63 ?_
      refine jq_iconst (pc := 64) hF dM_goOut_64 ic_3 ?_
      refine jq_icmp_ne (pc := 65) hF 82 dM_goOut_65 rfl (fun h65 => ?_) (fun h65 => ?_)
      · refine jq_iload_n (pc := 82) hF 0 dM_goOut_82 rfl ?_
        refine jq_if_ge (pc := 83) hF 103 dM_goOut_83 rfl (fun h83 => ?_) (fun h83 => ?_)
        · exact jq_at (hk 103 _ dM_goOut_103) (congrArg (wM a cI cZ) (by exact (if_pos h42).trans ((if_pos h65).trans (if_pos h83)))) rfl rfl rfl
        · refine jq_aload_n (pc := 86) hF 1 dM_goOut_86 rfl ?_
          refine jq_aload_n (pc := 87) hF 1 dM_goOut_87 rfl ?_
          refine Mg_M_203 (pc := 88) hF dM_goOut_88 ?_
          refine jq_iconst (pc := 91) hF dM_goOut_91 ic_1 ?_
          refine jq_aload_n (pc := 92) hF 1 dM_goOut_92 rfl ?_
          refine Mg_M_26 (pc := 93) hF dM_goOut_93 ?_
          refine jq_iload_n (pc := 96) hF 2 dM_goOut_96 rfl ?_
          refine Ml_6 (pc := 97) hF (by omega) dM_goOut_97 ?_
          refine jq_ishl (pc := 98) hF dM_goOut_98 ?_
          refine jq_ior (pc := 99) hF dM_goOut_99 ?_
          refine Mp_M_203 (pc := 100) hF dM_goOut_100 ?_
          exact jq_at (hk 103 _ dM_goOut_103) (congrArg (wM a cI cZ) (by exact (if_pos h42).trans ((if_pos h65).trans (if_neg h83)))) rfl rfl rfl
      · refine jq_aload_n (pc := 68) hF 1 dM_goOut_68 rfl ?_
        refine jq_aload_n (pc := 69) hF 1 dM_goOut_69 rfl ?_
        refine Mg_M_203 (pc := 70) hF dM_goOut_70 ?_
        refine jq_bipush (pc := 73) hF dM_goOut_73 bi_64 ?_
        refine jq_ior (pc := 75) hF dM_goOut_75 ?_
        refine Mp_M_203 (pc := 76) hF dM_goOut_76 ?_
        refine jq_goto (pc := 79) hF 103 dM_goOut_79 rfl ?_
        exact jq_at (hk 103 _ dM_goOut_103) (congrArg (wM a cI cZ) (by exact (if_pos h42).trans (if_neg (fun e => e h65)))) rfl rfl rfl
    · refine jq_aload_n (pc := 45) hF 1 dM_goOut_45 rfl ?_
      refine jq_aload_n (pc := 46) hF 1 dM_goOut_46 rfl ?_
      refine jq_iload_n (pc := 47) hF 2 dM_goOut_47 rfl ?_
      refine jq_cVI (pc := 48) hF (As := [.int (nI p)]) (rest := [.ref (a 0)]) (mM_other l D a cI cZ (mCross τ) (p) hp (mCross_inv hI)) (jG_v mL_M_172 mI_M_other mS_M_other mZ_M mC_M_other) rfl rfl rfl dd_M_other ⟨Nat.le_of_ble_eq_true rfl, Nat.le_of_ble_eq_true rfl⟩ 0 rfl rfl rfl rfl (Nat.le_of_ble_eq_true rfl) dM_goOut_48 ?_
      refine jq_iload_n (pc := 51) hF 0 dM_goOut_51 rfl ?_
      refine jq_cVV (pc := 52) hF (As := [.int (mOther (mCross τ) (p)), .int (mTag τ p nw)]) (rest := []) (mM_arrive l D a cI cZ (mCross τ) (mOther (mCross τ) (p)) (mTag τ p nw) hA) (jG_v mL_M_200 mI_M_arrive mS_M_arrive mZ_M mC_M_arrive) rfl rfl rfl dd_M_arrive ⟨Nat.le_of_ble_eq_true rfl, Nat.le_of_ble_eq_true rfl⟩ 0 rfl rfl rfl rfl (Nat.le_of_ble_eq_true rfl) dM_goOut_52 ?_
      refine jq_goto (pc := 55) hF 103 dM_goOut_55 rfl ?_
      exact jq_at (hk 103 _ dM_goOut_103) (congrArg (wM a cI cZ) (by exact if_neg (fun e => e h42))) rfl rfl rfl
  refine jq_aload_n (pc := 0) hF 0 dM_goOut_0 rfl ?_
  refine Mg_M_29 (pc := 1) hF dM_goOut_1 ?_
  refine jq_iload_n (pc := 4) hF 1 dM_goOut_4 rfl ?_
  refine Ml_7 (pc := 5) hF (by omega) dM_goOut_5 ?_
  refine jq_if_eq (pc := 6) hF 19 dM_goOut_6 rfl (fun h6 => ?_) (fun h6 => ?_)
  · refine jq_iconst (pc := 19) hF dM_goOut_19 ic_m1 ?_
    refine jq_goto (pc := 20) hF 24 dM_goOut_20 rfl ?_
    exact jq_at j24 rfl rfl rfl (by simp [mTag, h6])
  · refine jq_iload_n (pc := 9) hF 2 dM_goOut_9 rfl ?_
    refine jq_aload_n (pc := 10) hF 0 dM_goOut_10 rfl ?_
    refine Mg_M_32 (pc := 11) hF dM_goOut_11 ?_
    refine jq_iload_n (pc := 14) hF 1 dM_goOut_14 rfl ?_
    refine Ml_8 (pc := 15) hF (by omega) dM_goOut_15 ?_
    refine jq_icmp_ne (pc := 16) hF 23 dM_goOut_16 rfl (fun h16 => ?_) (fun h16 => ?_)
    · refine jq_iload_n (pc := 23) hF 2 dM_goOut_23 rfl ?_
      exact jq_at j24 rfl rfl rfl (by simp [mTag, h6, h16])
    · refine jq_iconst (pc := 19) hF dM_goOut_19 ic_m1 ?_
      refine jq_goto (pc := 20) hF 24 dM_goOut_20 rfl ?_
      exact jq_at j24 rfl rfl rfl (by simp [mTag, h6, h16])
set_option maxHeartbeats 4000000 in
set_option maxRecDepth 100000 in
theorem mM_isMember (l : Launch) (D : va_G) (a : Nat → Nat) (cI cZ : ClassId) (τ : jS) (p : Nat) (nw : Int32) (hp : p < 24) : jI l yM_isMember w_M_isMember (rmD 0) D (jTys cI cZ) [.ref (a 0), .int (nI p), .int (nw)] (wM a cI cZ τ) (wM a cI cZ (τ)) (bI (mIsMember τ p nw)) := by
  refine jI_of (ws' := jG) (bI_nw _) (by decide) rfl (Nat.le_of_ble_eq_true rfl) ?_
  intro X hF hk
  show jJ l D (rmD 0) 3 X (wM a cI cZ τ) 0 [(0, .ref (a 0)), (1, .int (nI p)), (2, .int (nw))] []
  refine jq_aload_n (pc := 0) hF 0 dM_isMember_0 rfl ?_
  refine Mg_M_35 (pc := 1) hF dM_isMember_1 ?_
  refine jq_iload_n (pc := 4) hF 1 dM_isMember_4 rfl ?_
  refine Ml_9 (pc := 5) hF (by omega) dM_isMember_5 ?_
  refine jq_iload_n (pc := 6) hF 2 dM_isMember_6 rfl ?_
  refine jq_ishr (pc := 7) hF dM_isMember_7 ?_
  refine jq_iconst (pc := 8) hF dM_isMember_8 ic_1 ?_
  refine jq_iand (pc := 9) hF dM_isMember_9 ?_
  refine jq_iconst (pc := 10) hF dM_isMember_10 ic_1 ?_
  refine jq_icmp_ne (pc := 11) hF 18 dM_isMember_11 rfl (fun h11 => ?_) (fun h11 => ?_)
  · refine jq_iconst (pc := 18) hF dM_isMember_18 ic_0 ?_
    exact jq_at (hk 19 _ dM_isMember_19) rfl rfl rfl (congrArg (fun z => [Value.int z]) (bI0 (by simp [mIsMember, h11])))
  · refine jq_iconst (pc := 14) hF dM_isMember_14 ic_1 ?_
    refine jq_goto (pc := 15) hF 19 dM_isMember_15 rfl ?_
    exact jq_at (hk 19 _ dM_isMember_19) rfl rfl rfl (congrArg (fun z => [Value.int z]) (bI1 (by simp [mIsMember, h11])))
set_option maxHeartbeats 4000000 in
set_option maxRecDepth 100000 in
theorem mM_handle (l : Launch) (D : va_G) (a : Nat → Nat) (cI cZ : ClassId) (τ : jS) (p : Nat) (tag : Int32) (src : Nat) (tgt : Int32) (hp : p < 24) (ht : okQ 4 tag) (hs : src < 7) (hT : okQ 7 tgt) (hS : mOkS τ) : jV l yM_handle w_M_handle (rmD 5) D (jTys cI cZ) [.ref (a 0), .int (nI p), .int (tag), .int (nI src), .int (tgt)] (wM a cI cZ τ) (wM a cI cZ (mHandle τ p tag src tgt)) := by
  refine jV_of (ws' := jG) (by decide) rfl (Nat.le_of_ble_eq_true rfl) ?_
  intro X hF hk
  show jJ l D (rmD 5) 12 X (wM a cI cZ τ) 0 [(0, .ref (a 0)), (1, .int (nI p)), (2, .int (tag)), (3, .int (nI src)), (4, .int (tgt))] []
  have hnw := ((mNet_ok hS.1 hp ht).cl (by decide)).1
  refine jq_aload_n (pc := 0) hF 0 dM_handle_0 rfl ?_
  refine jq_iload_n (pc := 1) hF 1 dM_handle_1 rfl ?_
  refine jq_cVI (pc := 2) hF (As := [.int (nI p)]) (rest := []) (mM_stateOf l D a cI cZ τ (p) hp hS.1) (jG_v mL_M_169 mI_M_stateOf mS_M_stateOf mZ_M mC_M_stateOf) rfl rfl rfl dd_M_stateOf ⟨Nat.le_of_ble_eq_true rfl, Nat.le_of_ble_eq_true rfl⟩ 0 rfl rfl rfl rfl (Nat.le_of_ble_eq_true rfl) dM_handle_2 ?_
  refine jq_istore (pc := 5) hF [(5, .int (mState τ (p))), (0, .ref (a 0)), (1, .int (nI p)), (2, .int (tag)), (3, .int (nI src)), (4, .int (tgt))] dM_handle_5 (Nat.le_of_ble_eq_true rfl) rfl ?_
  refine jq_iload_n (pc := 7) hF 3 dM_handle_7 rfl ?_
  have j21 : jJ l D (rmD 5) 12 X (wM a cI cZ τ) 21 [(5, .int (mState τ (p))), (0, .ref (a 0)), (1, .int (nI p)), (2, .int (tag)), (3, .int (nI src)), (4, .int (tgt))] [.int (if 0 ≤ tag then tag else τ 8 (p))] := by
    refine jq_top (nI ((mNet τ p tag).toNatClampNeg)) (((mNet_ok hS.1 hp ht).cl (by decide)).2) ?_
    refine jq_istore (pc := 21) hF [(6, .int (nI ((mNet τ p tag).toNatClampNeg))), (5, .int (mState τ (p))), (0, .ref (a 0)), (1, .int (nI p)), (2, .int (tag)), (3, .int (nI src)), (4, .int (tgt))] dM_handle_21 (Nat.le_of_ble_eq_true rfl) rfl ?_
    have j53 : mHandB τ p tag = true → jJ l D (rmD 5) 12 X (wM a cI cZ τ) 53 [(6, .int (nI ((mNet τ p tag).toNatClampNeg))), (5, .int (mState τ (p))), (0, .ref (a 0)), (1, .int (nI p)), (2, .int (tag)), (3, .int (nI src)), (4, .int (tgt))] [] := by
      intro hG
      refine jq_iconst (pc := 53) hF dM_handle_53 ic_4 ?_
      refine jq_iload_n (pc := 54) hF 3 dM_handle_54 rfl ?_
      refine jq_iconst (pc := 55) hF dM_handle_55 ic_4 ?_
      refine jq_idivN (pc := 56) hF (by omega) (by decide) (by decide) dM_handle_56 ?_
      refine jq_imulN (pc := 57) hF dM_handle_57 ?_
      refine jq_iload (pc := 58) hF 0 dM_handle_58 rfl ?_
      refine jq_iaddN (pc := 60) hF dM_handle_60 ?_
      refine jq_bipush (pc := 61) hF dM_handle_61 bi_7 ?_
      refine jq_imulN (pc := 63) hF dM_handle_63 ?_
      refine jq_istore (pc := 64) hF [(7, .int (nI ((4 * (p / 4) + ((mNet τ p tag).toNatClampNeg)) * 7))), (6, .int (nI ((mNet τ p tag).toNatClampNeg))), (5, .int (mState τ (p))), (0, .ref (a 0)), (1, .int (nI p)), (2, .int (tag)), (3, .int (nI src)), (4, .int (tgt))] dM_handle_64 (Nat.le_of_ble_eq_true rfl) rfl ?_
      refine jq_aload_n (pc := 66) hF 3 dM_handle_66 rfl ?_
      refine Mg_M_90 (pc := 67) hF dM_handle_67 ?_
      refine jq_iload (pc := 70) hF 0 dM_handle_70 rfl ?_
      refine jq_iload_n (pc := 72) hF 6 dM_handle_72 rfl ?_
      refine jq_iaddN (pc := 73) hF dM_handle_73 ?_
      refine jq_iload_n (pc := 74) hF 4 dM_handle_74 rfl ?_
      refine jq_iconst (pc := 75) hF dM_handle_75 ic_4 ?_
      refine jq_iremN (pc := 76) hF (by omega) (by decide) (by decide) dM_handle_76 ?_
      refine jq_iconst (pc := 77) hF dM_handle_77 ic_1 ?_
      refine jq_iaddN (pc := 78) hF dM_handle_78 ?_
      refine Ms_26 (pc := 79) hF (by omega) dM_handle_79 ?_
      refine jq_aload_n (pc := 80) hF 3 dM_handle_80 rfl ?_
      refine Mg_M_93 (pc := 81) hF dM_handle_81 ?_
      refine jq_iload (pc := 84) hF 0 dM_handle_84 rfl ?_
      refine jq_iload_n (pc := 86) hF 6 dM_handle_86 rfl ?_
      refine jq_iaddN (pc := 87) hF dM_handle_87 ?_
      refine jq_aload_n (pc := 88) hF 3 dM_handle_88 rfl ?_
      refine Mg_M_154 (pc := 89) hF dM_handle_89 ?_
      refine Ms_27 (pc := 92) hF (by omega) dM_handle_92 ?_
      refine jq_w (wM a cI cZ (mLearn τ p (mNet τ p tag).toNatClampNeg src)) (congrArg (wM a cI cZ) (by rfl)) ?_
      refine jq_iload (pc := 93) hF 2 dM_handle_93 rfl ?_
      refine jq_iconst (pc := 95) hF dM_handle_95 ic_2 ?_
      refine jq_icmp_ne (pc := 96) hF 100 dM_handle_96 rfl (fun h96 => ?_) (fun h96 => ?_)
      · refine jq_iload (pc := 100) hF 7 dM_handle_100 rfl ?_
        have j119 : jJ l D (rmD 5) 12 X (wM a cI cZ (mLearn τ p (mNet τ p tag).toNatClampNeg src)) 119 [(7, .int (nI ((4 * (p / 4) + ((mNet τ p tag).toNatClampNeg)) * 7))), (6, .int (nI ((mNet τ p tag).toNatClampNeg))), (5, .int (mState τ (p))), (0, .ref (a 0)), (1, .int (nI p)), (2, .int (tag)), (3, .int (nI src)), (4, .int (tgt))] [.int (if 0 ≤ tgt then (mLearn τ p (mNet τ p tag).toNatClampNeg src) 26 ((4 * (p / 4) + ((mNet τ p tag).toNatClampNeg)) * 7 + ((tgt).toNatClampNeg)) else nI (0))] := by
          refine jq_top (mKnown (mLearn τ p (mNet τ p tag).toNatClampNeg src) p (mNet τ p tag).toNatClampNeg tgt) (rfl) ?_
          refine jq_istore (pc := 119) hF [(8, .int (mKnown (mLearn τ p (mNet τ p tag).toNatClampNeg src) p (mNet τ p tag).toNatClampNeg tgt)), (7, .int (nI ((4 * (p / 4) + ((mNet τ p tag).toNatClampNeg)) * 7))), (6, .int (nI ((mNet τ p tag).toNatClampNeg))), (5, .int (mState τ (p))), (0, .ref (a 0)), (1, .int (nI p)), (2, .int (tag)), (3, .int (nI src)), (4, .int (tgt))] dM_handle_119 (Nat.le_of_ble_eq_true rfl) rfl ?_
          refine jq_iconst (pc := 121) hF dM_handle_121 ic_0 ?_
          refine jq_istore (pc := 122) hF [(9, .int (nI 0)), (8, .int (mKnown (mLearn τ p (mNet τ p tag).toNatClampNeg src) p (mNet τ p tag).toNatClampNeg tgt)), (7, .int (nI ((4 * (p / 4) + ((mNet τ p tag).toNatClampNeg)) * 7))), (6, .int (nI ((mNet τ p tag).toNatClampNeg))), (5, .int (mState τ (p))), (0, .ref (a 0)), (1, .int (nI p)), (2, .int (tag)), (3, .int (nI src)), (4, .int (tgt))] dM_handle_122 (Nat.le_of_ble_eq_true rfl) rfl ?_
          have lp124 : ∀ k, k ≤ 4 → jJ l D (rmD 5) 12 X (wM a cI cZ (forN (mFwd1 p (mNet τ p tag).toNatClampNeg (mKnown (mLearn τ p (mNet τ p tag).toNatClampNeg src) p (mNet τ p tag).toNatClampNeg tgt)) (mLearn τ p (mNet τ p tag).toNatClampNeg src) k)) 124 [(9, .int (nI k)), (8, .int (mKnown (mLearn τ p (mNet τ p tag).toNatClampNeg src) p (mNet τ p tag).toNatClampNeg tgt)), (7, .int (nI ((4 * (p / 4) + ((mNet τ p tag).toNatClampNeg)) * 7))), (6, .int (nI ((mNet τ p tag).toNatClampNeg))), (5, .int (mState τ (p))), (0, .ref (a 0)), (1, .int (nI p)), (2, .int (tag)), (3, .int (nI src)), (4, .int (tgt))] [] := by
            refine loop_up (fun k hi ih124 => ?_)
            have hSk := mFwdN_ok (mLearn_ok hS p (mNet τ p tag).toNatClampNeg src) (mKnown (mLearn τ p (mNet τ p tag).toNatClampNeg src) p (mNet τ p tag).toNatClampNeg tgt) hp hnw k hi
            refine jq_iload (pc := 124) hF 0 dM_handle_124 rfl ?_
            refine jq_iconst (pc := 126) hF dM_handle_126 ic_4 ?_
            refine jq_icmp_geN (pc := 127) hF 216 (by omega) (by omega) dM_handle_127 rfl (fun h127 => ?_) (fun h127 => ?_)
            · obtain rfl : k = 4 := by omega
              exact jq_at (hk 216 _ dM_handle_216) (congrArg (wM a cI cZ) (by exact (if_pos hG).trans (if_pos h96))) rfl rfl rfl
            · refine jq_iconst (pc := 130) hF dM_handle_130 ic_4 ?_
              refine jq_iload_n (pc := 131) hF 6 dM_handle_131 rfl ?_
              refine jq_iconst (pc := 132) hF dM_handle_132 ic_4 ?_
              refine jq_idivN (pc := 133) hF (by omega) (by decide) (by decide) dM_handle_133 ?_
              refine jq_imulN (pc := 134) hF dM_handle_134 ?_
              refine jq_iload (pc := 135) hF 0 dM_handle_135 rfl ?_
              refine jq_iaddN (pc := 137) hF dM_handle_137 ?_
              refine jq_istore (pc := 138) hF [(10, .int (nI (4 * (p / 4) + k))), (9, .int (nI k)), (8, .int (mKnown (mLearn τ p (mNet τ p tag).toNatClampNeg src) p (mNet τ p tag).toNatClampNeg tgt)), (7, .int (nI ((4 * (p / 4) + ((mNet τ p tag).toNatClampNeg)) * 7))), (6, .int (nI ((mNet τ p tag).toNatClampNeg))), (5, .int (mState τ (p))), (0, .ref (a 0)), (1, .int (nI p)), (2, .int (tag)), (3, .int (nI src)), (4, .int (tgt))] dM_handle_138 (Nat.le_of_ble_eq_true rfl) rfl ?_
              have j176 : jJ l D (rmD 5) 12 X (wM a cI cZ (forN (mFwd1 p (mNet τ p tag).toNatClampNeg (mKnown (mLearn τ p (mNet τ p tag).toNatClampNeg src) p (mNet τ p tag).toNatClampNeg tgt)) (mLearn τ p (mNet τ p tag).toNatClampNeg src) k)) 176 [(10, .int (nI (4 * (p / 4) + k))), (9, .int (nI k)), (8, .int (mKnown (mLearn τ p (mNet τ p tag).toNatClampNeg src) p (mNet τ p tag).toNatClampNeg tgt)), (7, .int (nI ((4 * (p / 4) + ((mNet τ p tag).toNatClampNeg)) * 7))), (6, .int (nI ((mNet τ p tag).toNatClampNeg))), (5, .int (mState τ (p))), (0, .ref (a 0)), (1, .int (nI p)), (2, .int (tag)), (3, .int (nI src)), (4, .int (tgt))] [.int (bI (!decide (4 * (p / 4) + k = p) && (decide (mKnown (mLearn τ p (mNet τ p tag).toNatClampNeg src) p (mNet τ p tag).toNatClampNeg tgt = 0) || decide (mKnown (mLearn τ p (mNet τ p tag).toNatClampNeg src) p (mNet τ p tag).toNatClampNeg tgt = nI (k + 1))) && mIsMember (forN (mFwd1 p (mNet τ p tag).toNatClampNeg (mKnown (mLearn τ p (mNet τ p tag).toNatClampNeg src) p (mNet τ p tag).toNatClampNeg tgt)) (mLearn τ p (mNet τ p tag).toNatClampNeg src) k) (4 * (p / 4) + k) (nI (mNet τ p tag).toNatClampNeg)))] := by
                refine jq_istore (pc := 176) hF [(11, .int (bI (!decide (4 * (p / 4) + k = p) && (decide (mKnown (mLearn τ p (mNet τ p tag).toNatClampNeg src) p (mNet τ p tag).toNatClampNeg tgt = 0) || decide (mKnown (mLearn τ p (mNet τ p tag).toNatClampNeg src) p (mNet τ p tag).toNatClampNeg tgt = nI (k + 1))) && mIsMember (forN (mFwd1 p (mNet τ p tag).toNatClampNeg (mKnown (mLearn τ p (mNet τ p tag).toNatClampNeg src) p (mNet τ p tag).toNatClampNeg tgt)) (mLearn τ p (mNet τ p tag).toNatClampNeg src) k) (4 * (p / 4) + k) (nI (mNet τ p tag).toNatClampNeg)))), (10, .int (nI (4 * (p / 4) + k))), (9, .int (nI k)), (8, .int (mKnown (mLearn τ p (mNet τ p tag).toNatClampNeg src) p (mNet τ p tag).toNatClampNeg tgt)), (7, .int (nI ((4 * (p / 4) + ((mNet τ p tag).toNatClampNeg)) * 7))), (6, .int (nI ((mNet τ p tag).toNatClampNeg))), (5, .int (mState τ (p))), (0, .ref (a 0)), (1, .int (nI p)), (2, .int (tag)), (3, .int (nI src)), (4, .int (tgt))] dM_handle_176 (Nat.le_of_ble_eq_true rfl) rfl ?_
                refine jq_iload (pc := 178) hF 0 dM_handle_178 rfl ?_
                refine jq_if_eqB (pc := 180) hF 210 dM_handle_180 rfl (fun h180 => ?_) (fun h180 => ?_)
                · refine jq_iincN (pc := 210) hF 2 [(9, .int (nI (k + 1))), (11, .int (bI (!decide (4 * (p / 4) + k = p) && (decide (mKnown (mLearn τ p (mNet τ p tag).toNatClampNeg src) p (mNet τ p tag).toNatClampNeg tgt = 0) || decide (mKnown (mLearn τ p (mNet τ p tag).toNatClampNeg src) p (mNet τ p tag).toNatClampNeg tgt = nI (k + 1))) && mIsMember (forN (mFwd1 p (mNet τ p tag).toNatClampNeg (mKnown (mLearn τ p (mNet τ p tag).toNatClampNeg src) p (mNet τ p tag).toNatClampNeg tgt)) (mLearn τ p (mNet τ p tag).toNatClampNeg src) k) (4 * (p / 4) + k) (nI (mNet τ p tag).toNatClampNeg)))), (10, .int (nI (4 * (p / 4) + k))), (8, .int (mKnown (mLearn τ p (mNet τ p tag).toNatClampNeg src) p (mNet τ p tag).toNatClampNeg tgt)), (7, .int (nI ((4 * (p / 4) + ((mNet τ p tag).toNatClampNeg)) * 7))), (6, .int (nI ((mNet τ p tag).toNatClampNeg))), (5, .int (mState τ (p))), (0, .ref (a 0)), (1, .int (nI p)), (2, .int (tag)), (3, .int (nI src)), (4, .int (tgt))] dM_handle_210 rfl (Nat.le_of_ble_eq_true rfl) rfl ?_
                  refine jq_goto (pc := 213) hF 124 dM_handle_213 rfl ?_
                  refine jq_sub [(9, .int (nI (k + 1))), (8, .int (mKnown (mLearn τ p (mNet τ p tag).toNatClampNeg src) p (mNet τ p tag).toNatClampNeg tgt)), (7, .int (nI ((4 * (p / 4) + ((mNet τ p tag).toNatClampNeg)) * 7))), (6, .int (nI ((mNet τ p tag).toNatClampNeg))), (5, .int (mState τ (p))), (0, .ref (a 0)), (1, .int (nI p)), (2, .int (tag)), (3, .int (nI src)), (4, .int (tgt))] [0, 3, 4, 5, 6, 7, 8, 9, 10, 11] rfl ?_
                  exact jq_at (ih124 (by omega)) (congrArg (wM a cI cZ) (by exact if_neg (by rw [h180]; decide))) rfl rfl rfl
                · refine jq_aload_n (pc := 183) hF 7 dM_handle_183 rfl ?_
                  refine Mg_M_197 (pc := 184) hF dM_handle_184 ?_
                  refine jq_bipush (pc := 187) hF dM_handle_187 bi_60 ?_
                  refine jq_icmp_ge (pc := 189) hF 210 dM_handle_189 rfl (fun h189 => ?_) (fun h189 => ?_)
                  · refine jq_iincN (pc := 210) hF 2 [(9, .int (nI (k + 1))), (11, .int (bI (!decide (4 * (p / 4) + k = p) && (decide (mKnown (mLearn τ p (mNet τ p tag).toNatClampNeg src) p (mNet τ p tag).toNatClampNeg tgt = 0) || decide (mKnown (mLearn τ p (mNet τ p tag).toNatClampNeg src) p (mNet τ p tag).toNatClampNeg tgt = nI (k + 1))) && mIsMember (forN (mFwd1 p (mNet τ p tag).toNatClampNeg (mKnown (mLearn τ p (mNet τ p tag).toNatClampNeg src) p (mNet τ p tag).toNatClampNeg tgt)) (mLearn τ p (mNet τ p tag).toNatClampNeg src) k) (4 * (p / 4) + k) (nI (mNet τ p tag).toNatClampNeg)))), (10, .int (nI (4 * (p / 4) + k))), (8, .int (mKnown (mLearn τ p (mNet τ p tag).toNatClampNeg src) p (mNet τ p tag).toNatClampNeg tgt)), (7, .int (nI ((4 * (p / 4) + ((mNet τ p tag).toNatClampNeg)) * 7))), (6, .int (nI ((mNet τ p tag).toNatClampNeg))), (5, .int (mState τ (p))), (0, .ref (a 0)), (1, .int (nI p)), (2, .int (tag)), (3, .int (nI src)), (4, .int (tgt))] dM_handle_210 rfl (Nat.le_of_ble_eq_true rfl) rfl ?_
                    refine jq_goto (pc := 213) hF 124 dM_handle_213 rfl ?_
                    refine jq_sub [(9, .int (nI (k + 1))), (8, .int (mKnown (mLearn τ p (mNet τ p tag).toNatClampNeg src) p (mNet τ p tag).toNatClampNeg tgt)), (7, .int (nI ((4 * (p / 4) + ((mNet τ p tag).toNatClampNeg)) * 7))), (6, .int (nI ((mNet τ p tag).toNatClampNeg))), (5, .int (mState τ (p))), (0, .ref (a 0)), (1, .int (nI p)), (2, .int (tag)), (3, .int (nI src)), (4, .int (tgt))] [0, 3, 4, 5, 6, 7, 8, 9, 10, 11] rfl ?_
                    exact jq_at (ih124 (by omega)) (congrArg (wM a cI cZ) (by exact (if_pos h180).trans (if_pos h189))) rfl rfl rfl
                  · refine jq_aload_n (pc := 192) hF 7 dM_handle_192 rfl ?_
                    refine jq_iload (pc := 193) hF 1 dM_handle_193 rfl ?_
                    refine jq_cVI (pc := 195) hF (As := [.int (nI (4 * (p / 4) + k))]) (rest := []) (mM_stateOf l D a cI cZ (forN (mFwd1 p (mNet τ p tag).toNatClampNeg (mKnown (mLearn τ p (mNet τ p tag).toNatClampNeg src) p (mNet τ p tag).toNatClampNeg tgt)) (mLearn τ p (mNet τ p tag).toNatClampNeg src) k) (4 * (p / 4) + k) (by omega) hSk.1) (jG_v mL_M_169 mI_M_stateOf mS_M_stateOf mZ_M mC_M_stateOf) rfl rfl rfl dd_M_stateOf ⟨Nat.le_of_ble_eq_true rfl, Nat.le_of_ble_eq_true rfl⟩ 0 rfl rfl rfl rfl (Nat.le_of_ble_eq_true rfl) dM_handle_195 ?_
                    refine jq_iconst (pc := 198) hF dM_handle_198 ic_3 ?_
                    refine jq_icmp_ne (pc := 199) hF 210 dM_handle_199 rfl (fun h199 => ?_) (fun h199 => ?_)
                    · refine jq_iincN (pc := 210) hF 2 [(9, .int (nI (k + 1))), (11, .int (bI (!decide (4 * (p / 4) + k = p) && (decide (mKnown (mLearn τ p (mNet τ p tag).toNatClampNeg src) p (mNet τ p tag).toNatClampNeg tgt = 0) || decide (mKnown (mLearn τ p (mNet τ p tag).toNatClampNeg src) p (mNet τ p tag).toNatClampNeg tgt = nI (k + 1))) && mIsMember (forN (mFwd1 p (mNet τ p tag).toNatClampNeg (mKnown (mLearn τ p (mNet τ p tag).toNatClampNeg src) p (mNet τ p tag).toNatClampNeg tgt)) (mLearn τ p (mNet τ p tag).toNatClampNeg src) k) (4 * (p / 4) + k) (nI (mNet τ p tag).toNatClampNeg)))), (10, .int (nI (4 * (p / 4) + k))), (8, .int (mKnown (mLearn τ p (mNet τ p tag).toNatClampNeg src) p (mNet τ p tag).toNatClampNeg tgt)), (7, .int (nI ((4 * (p / 4) + ((mNet τ p tag).toNatClampNeg)) * 7))), (6, .int (nI ((mNet τ p tag).toNatClampNeg))), (5, .int (mState τ (p))), (0, .ref (a 0)), (1, .int (nI p)), (2, .int (tag)), (3, .int (nI src)), (4, .int (tgt))] dM_handle_210 rfl (Nat.le_of_ble_eq_true rfl) rfl ?_
                      refine jq_goto (pc := 213) hF 124 dM_handle_213 rfl ?_
                      refine jq_sub [(9, .int (nI (k + 1))), (8, .int (mKnown (mLearn τ p (mNet τ p tag).toNatClampNeg src) p (mNet τ p tag).toNatClampNeg tgt)), (7, .int (nI ((4 * (p / 4) + ((mNet τ p tag).toNatClampNeg)) * 7))), (6, .int (nI ((mNet τ p tag).toNatClampNeg))), (5, .int (mState τ (p))), (0, .ref (a 0)), (1, .int (nI p)), (2, .int (tag)), (3, .int (nI src)), (4, .int (tgt))] [0, 3, 4, 5, 6, 7, 8, 9, 10, 11] rfl ?_
                      exact jq_at (ih124 (by omega)) (congrArg (wM a cI cZ) (by exact (if_pos h180).trans ((if_neg h189).trans (if_pos h199)))) rfl rfl rfl
                    · refine jq_aload_n (pc := 202) hF 7 dM_handle_202 rfl ?_
                      refine jq_iload (pc := 203) hF 1 dM_handle_203 rfl ?_
                      refine jq_iload (pc := 205) hF 5 dM_handle_205 rfl ?_
                      refine jq_cVV (pc := 207) hF (As := [.int (nI (4 * (p / 4) + k)), .int (nI ((mNet τ p tag).toNatClampNeg))]) (rest := []) (mM_goOut l D a cI cZ (forN (mFwd1 p (mNet τ p tag).toNatClampNeg (mKnown (mLearn τ p (mNet τ p tag).toNatClampNeg src) p (mNet τ p tag).toNatClampNeg tgt)) (mLearn τ p (mNet τ p tag).toNatClampNeg src) k) (4 * (p / 4) + k) (nI ((mNet τ p tag).toNatClampNeg)) (by omega) (hSk.cnt h189) hSk.1) (jG_v mL_M_210 mI_M_goOut mS_M_goOut mZ_M mC_M_goOut) rfl rfl rfl dd_M_goOut ⟨Nat.le_of_ble_eq_true rfl, Nat.le_of_ble_eq_true rfl⟩ 0 rfl rfl rfl rfl (Nat.le_of_ble_eq_true rfl) dM_handle_207 ?_
                      refine jq_iincN (pc := 210) hF 2 [(9, .int (nI (k + 1))), (11, .int (bI (!decide (4 * (p / 4) + k = p) && (decide (mKnown (mLearn τ p (mNet τ p tag).toNatClampNeg src) p (mNet τ p tag).toNatClampNeg tgt = 0) || decide (mKnown (mLearn τ p (mNet τ p tag).toNatClampNeg src) p (mNet τ p tag).toNatClampNeg tgt = nI (k + 1))) && mIsMember (forN (mFwd1 p (mNet τ p tag).toNatClampNeg (mKnown (mLearn τ p (mNet τ p tag).toNatClampNeg src) p (mNet τ p tag).toNatClampNeg tgt)) (mLearn τ p (mNet τ p tag).toNatClampNeg src) k) (4 * (p / 4) + k) (nI (mNet τ p tag).toNatClampNeg)))), (10, .int (nI (4 * (p / 4) + k))), (8, .int (mKnown (mLearn τ p (mNet τ p tag).toNatClampNeg src) p (mNet τ p tag).toNatClampNeg tgt)), (7, .int (nI ((4 * (p / 4) + ((mNet τ p tag).toNatClampNeg)) * 7))), (6, .int (nI ((mNet τ p tag).toNatClampNeg))), (5, .int (mState τ (p))), (0, .ref (a 0)), (1, .int (nI p)), (2, .int (tag)), (3, .int (nI src)), (4, .int (tgt))] dM_handle_210 rfl (Nat.le_of_ble_eq_true rfl) rfl ?_
                      refine jq_goto (pc := 213) hF 124 dM_handle_213 rfl ?_
                      refine jq_sub [(9, .int (nI (k + 1))), (8, .int (mKnown (mLearn τ p (mNet τ p tag).toNatClampNeg src) p (mNet τ p tag).toNatClampNeg tgt)), (7, .int (nI ((4 * (p / 4) + ((mNet τ p tag).toNatClampNeg)) * 7))), (6, .int (nI ((mNet τ p tag).toNatClampNeg))), (5, .int (mState τ (p))), (0, .ref (a 0)), (1, .int (nI p)), (2, .int (tag)), (3, .int (nI src)), (4, .int (tgt))] [0, 3, 4, 5, 6, 7, 8, 9, 10, 11] rfl ?_
                      exact jq_at (ih124 (by omega)) (congrArg (wM a cI cZ) (by exact (if_pos h180).trans ((if_neg h189).trans (if_neg (fun e => e h199))))) rfl rfl rfl
              refine jq_iload (pc := 140) hF 0 dM_handle_140 rfl ?_
              refine jq_iload_n (pc := 142) hF 7 dM_handle_142 rfl ?_
              refine jq_icmp_eqN (pc := 143) hF 175 (by omega) (by omega) dM_handle_143 rfl (fun h143 => ?_) (fun h143 => ?_)
              · refine jq_iconst (pc := 175) hF dM_handle_175 ic_0 ?_
                exact jq_at j176 rfl rfl rfl (congrArg (fun z => Value.int z :: []) (bI0 (by first | (rw [h168]; simp [h143, h148]; done) | (rw [h168]; simp [h143, h148, h157]; done) | (simp [h143]; done) | (simp [h143, h148, h157]; done))))
              · refine jq_iload (pc := 146) hF 2 dM_handle_146 rfl ?_
                refine jq_if_eq (pc := 148) hF 160 dM_handle_148 rfl (fun h148 => ?_) (fun h148 => ?_)
                · refine jq_aload_n (pc := 160) hF 6 dM_handle_160 rfl ?_
                  refine jq_iload (pc := 161) hF 0 dM_handle_161 rfl ?_
                  refine jq_iload (pc := 163) hF 4 dM_handle_163 rfl ?_
                  refine jq_cVI (pc := 165) hF (As := [.int (nI (4 * (p / 4) + k)), .int (nI ((mNet τ p tag).toNatClampNeg))]) (rest := []) (mM_isMember l D a cI cZ (forN (mFwd1 p (mNet τ p tag).toNatClampNeg (mKnown (mLearn τ p (mNet τ p tag).toNatClampNeg src) p (mNet τ p tag).toNatClampNeg tgt)) (mLearn τ p (mNet τ p tag).toNatClampNeg src) k) (4 * (p / 4) + k) (nI ((mNet τ p tag).toNatClampNeg)) (by omega)) (jG_v mL_M_206 mI_M_isMember mS_M_isMember mZ_M mC_M_isMember) rfl rfl rfl dd_M_isMember ⟨Nat.le_of_ble_eq_true rfl, Nat.le_of_ble_eq_true rfl⟩ 0 rfl rfl rfl rfl (Nat.le_of_ble_eq_true rfl) dM_handle_165 ?_
                  refine jq_if_eqB (pc := 168) hF 175 dM_handle_168 rfl (fun h168 => ?_) (fun h168 => ?_)
                  · refine jq_iconst (pc := 175) hF dM_handle_175 ic_0 ?_
                    exact jq_at j176 rfl rfl rfl (congrArg (fun z => Value.int z :: []) (bI0 (by first | (rw [h168]; simp [h143, h148]; done) | (rw [h168]; simp [h143, h148, h157]; done) | (simp [h143]; done) | (simp [h143, h148, h157]; done))))
                  · refine jq_iconst (pc := 171) hF dM_handle_171 ic_1 ?_
                    refine jq_goto (pc := 172) hF 176 dM_handle_172 rfl ?_
                    exact jq_at j176 rfl rfl rfl (congrArg (fun z => Value.int z :: []) (bI1 (by first | (rw [h168]; simp [h143, h148]; done) | (rw [h168]; simp [h143, h148, h157]; done) | (simp [h143]; done) | (simp [h143, h148, h157]; done))))
                · refine jq_iload (pc := 151) hF 2 dM_handle_151 rfl ?_
                  refine jq_iload (pc := 153) hF 1 dM_handle_153 rfl ?_
                  refine jq_iconst (pc := 155) hF dM_handle_155 ic_1 ?_
                  refine jq_iaddN (pc := 156) hF dM_handle_156 ?_
                  refine jq_icmp_ne (pc := 157) hF 175 dM_handle_157 rfl (fun h157 => ?_) (fun h157 => ?_)
                  · refine jq_iconst (pc := 175) hF dM_handle_175 ic_0 ?_
                    exact jq_at j176 rfl rfl rfl (congrArg (fun z => Value.int z :: []) (bI0 (by first | (rw [h168]; simp [h143, h148]; done) | (rw [h168]; simp [h143, h148, h157]; done) | (simp [h143]; done) | (simp [h143, h148, h157]; done))))
                  · refine jq_aload_n (pc := 160) hF 6 dM_handle_160 rfl ?_
                    refine jq_iload (pc := 161) hF 0 dM_handle_161 rfl ?_
                    refine jq_iload (pc := 163) hF 4 dM_handle_163 rfl ?_
                    refine jq_cVI (pc := 165) hF (As := [.int (nI (4 * (p / 4) + k)), .int (nI ((mNet τ p tag).toNatClampNeg))]) (rest := []) (mM_isMember l D a cI cZ (forN (mFwd1 p (mNet τ p tag).toNatClampNeg (mKnown (mLearn τ p (mNet τ p tag).toNatClampNeg src) p (mNet τ p tag).toNatClampNeg tgt)) (mLearn τ p (mNet τ p tag).toNatClampNeg src) k) (4 * (p / 4) + k) (nI ((mNet τ p tag).toNatClampNeg)) (by omega)) (jG_v mL_M_206 mI_M_isMember mS_M_isMember mZ_M mC_M_isMember) rfl rfl rfl dd_M_isMember ⟨Nat.le_of_ble_eq_true rfl, Nat.le_of_ble_eq_true rfl⟩ 0 rfl rfl rfl rfl (Nat.le_of_ble_eq_true rfl) dM_handle_165 ?_
                    refine jq_if_eqB (pc := 168) hF 175 dM_handle_168 rfl (fun h168 => ?_) (fun h168 => ?_)
                    · refine jq_iconst (pc := 175) hF dM_handle_175 ic_0 ?_
                      exact jq_at j176 rfl rfl rfl (congrArg (fun z => Value.int z :: []) (bI0 (by first | (rw [h168]; simp [h143, h148]; done) | (rw [h168]; simp [h143, h148, h157]; done) | (simp [h143]; done) | (simp [h143, h148, h157]; done))))
                    · refine jq_iconst (pc := 171) hF dM_handle_171 ic_1 ?_
                      refine jq_goto (pc := 172) hF 176 dM_handle_172 rfl ?_
                      exact jq_at j176 rfl rfl rfl (congrArg (fun z => Value.int z :: []) (bI1 (by first | (rw [h168]; simp [h143, h148]; done) | (rw [h168]; simp [h143, h148, h157]; done) | (simp [h143]; done) | (simp [h143, h148, h157]; done))))
          exact jq_at (lp124 0 (by omega)) rfl rfl rfl rfl
        refine jq_if_ge (pc := 102) hF 109 dM_handle_102 rfl (fun h102 => ?_) (fun h102 => ?_)
        · refine jq_aload_n (pc := 109) hF 3 dM_handle_109 rfl ?_
          refine Mg_M_90 (pc := 110) hF dM_handle_110 ?_
          refine jq_iload (pc := 113) hF 0 dM_handle_113 rfl ?_
          refine jq_iload (pc := 115) hF 7 dM_handle_115 rfl ?_
          refine jq_top (nI ((tgt).toNatClampNeg)) ((hT.cl (ne_neg h102) (by decide)).2) ?_
          refine jq_iaddN (pc := 117) hF dM_handle_117 ?_
          refine Ml_26 (pc := 118) hF (by have := (hT.cl (ne_neg h102) (by decide)).1; omega) dM_handle_118 ?_
          exact jq_at j119 rfl rfl rfl (by rw [if_pos h102])
        · refine jq_iconst (pc := 105) hF dM_handle_105 ic_0 ?_
          refine jq_goto (pc := 106) hF 119 dM_handle_106 rfl ?_
          exact jq_at j119 rfl rfl rfl (by rw [if_neg h102])
      · exact jq_at (hk 99 _ dM_handle_99) (congrArg (wM a cI cZ) (by exact (if_pos hG).trans (if_neg (fun e => e h96)))) rfl rfl rfl
    refine jq_iload (pc := 23) hF 1 dM_handle_23 rfl ?_
    refine jq_iconst (pc := 25) hF dM_handle_25 ic_2 ?_
    refine jq_icmp_lt (pc := 26) hF 52 dM_handle_26 rfl (fun h26 => ?_) (fun h26 => ?_)
    · exact jq_at (hk 52 _ dM_handle_52) (congrArg (wM a cI cZ) (by exact if_neg (by simp [mHandB, h26]))) rfl rfl rfl
    · refine jq_iload_n (pc := 29) hF 4 dM_handle_29 rfl ?_
      refine jq_if_lt (pc := 30) hF 42 dM_handle_30 rfl (fun h30 => ?_) (fun h30 => ?_)
      · refine jq_aload_n (pc := 42) hF 2 dM_handle_42 rfl ?_
        refine jq_iload_n (pc := 43) hF 3 dM_handle_43 rfl ?_
        refine jq_iload (pc := 44) hF 0 dM_handle_44 rfl ?_
        refine jq_cVI (pc := 46) hF (As := [.int (nI p), .int (nI ((mNet τ p tag).toNatClampNeg))]) (rest := []) (mM_isMember l D a cI cZ τ (p) (nI ((mNet τ p tag).toNatClampNeg)) hp) (jG_v mL_M_206 mI_M_isMember mS_M_isMember mZ_M mC_M_isMember) rfl rfl rfl dd_M_isMember ⟨Nat.le_of_ble_eq_true rfl, Nat.le_of_ble_eq_true rfl⟩ 0 rfl rfl rfl rfl (Nat.le_of_ble_eq_true rfl) dM_handle_46 ?_
        refine jq_if_neB (pc := 49) hF 53 dM_handle_49 rfl (fun h49 => ?_) (fun h49 => ?_)
        · exact jq_at (j53 (by simp [mHandB, h26, h30, h49])) rfl rfl rfl rfl
        · exact jq_at (hk 52 _ dM_handle_52) (congrArg (wM a cI cZ) (by exact if_neg (by simp [mHandB, h26, h30, h49]))) rfl rfl rfl
      · refine jq_aload_n (pc := 33) hF 2 dM_handle_33 rfl ?_
        refine Mg_M_29 (pc := 34) hF dM_handle_34 ?_
        refine jq_iload_n (pc := 37) hF 3 dM_handle_37 rfl ?_
        refine Ml_7 (pc := 38) hF (by omega) dM_handle_38 ?_
        refine jq_if_eq (pc := 39) hF 52 dM_handle_39 rfl (fun h39 => ?_) (fun h39 => ?_)
        · exact jq_at (hk 52 _ dM_handle_52) (congrArg (wM a cI cZ) (by exact if_neg (by simp [mHandB, h26, h30, h39]))) rfl rfl rfl
        · refine jq_aload_n (pc := 42) hF 2 dM_handle_42 rfl ?_
          refine jq_iload_n (pc := 43) hF 3 dM_handle_43 rfl ?_
          refine jq_iload (pc := 44) hF 0 dM_handle_44 rfl ?_
          refine jq_cVI (pc := 46) hF (As := [.int (nI p), .int (nI ((mNet τ p tag).toNatClampNeg))]) (rest := []) (mM_isMember l D a cI cZ τ (p) (nI ((mNet τ p tag).toNatClampNeg)) hp) (jG_v mL_M_206 mI_M_isMember mS_M_isMember mZ_M mC_M_isMember) rfl rfl rfl dd_M_isMember ⟨Nat.le_of_ble_eq_true rfl, Nat.le_of_ble_eq_true rfl⟩ 0 rfl rfl rfl rfl (Nat.le_of_ble_eq_true rfl) dM_handle_46 ?_
          refine jq_if_neB (pc := 49) hF 53 dM_handle_49 rfl (fun h49 => ?_) (fun h49 => ?_)
          · exact jq_at (j53 (by simp [mHandB, h26, h30, h39, h49])) rfl rfl rfl rfl
          · exact jq_at (hk 52 _ dM_handle_52) (congrArg (wM a cI cZ) (by exact if_neg (by simp [mHandB, h26, h30, h39, h49]))) rfl rfl rfl
  refine jq_if_ge (pc := 8) hF 20 dM_handle_8 rfl (fun h8 => ?_) (fun h8 => ?_)
  · refine jq_iload_n (pc := 20) hF 3 dM_handle_20 rfl ?_
    exact jq_at j21 rfl rfl rfl (by rw [if_pos h8])
  · refine jq_aload_n (pc := 11) hF 1 dM_handle_11 rfl ?_
    refine Mg_M_32 (pc := 12) hF dM_handle_12 ?_
    refine jq_iload_n (pc := 15) hF 2 dM_handle_15 rfl ?_
    refine Ml_8 (pc := 16) hF (by omega) dM_handle_16 ?_
    refine jq_goto (pc := 17) hF 21 dM_handle_17 rfl ?_
    exact jq_at j21 rfl rfl rfl (by rw [if_neg h8])
set_option maxHeartbeats 4000000 in
set_option maxRecDepth 100000 in
theorem mM_frame (l : Launch) (D : va_G) (a : Nat → Nat) (cI cZ : ClassId) (τ : jS) (p : Int32) (tag : Int32) (src : Nat) (tgt : Int32) (hp : okP 24 p) (ht : okQ 4 tag) (hs : src < 7) (hT : okQ 7 tgt) (hI : mInv τ) : jI l yM_frame w_M_frame (rmD 6) D (jTys cI cZ) [.ref (a 0), .int (p), .int (tag), .int (nI src), .int (tgt)] (wM a cI cZ τ) (wM a cI cZ (mFrame τ p tag src tgt)) ((mFrame τ p tag src tgt) 0 10) := by
  refine jI_of (ws' := jG) rfl (by decide) rfl (Nat.le_of_ble_eq_true rfl) ?_
  intro X hF hk
  show jJ l D (rmD 6) 6 X (wM a cI cZ τ) 0 [(0, .ref (a 0)), (1, .int (p)), (2, .int (tag)), (3, .int (nI src)), (4, .int (tgt))] []
  refine jq_aload_n (pc := 0) hF 0 dM_frame_0 rfl ?_
  refine jq_iconst (pc := 1) hF dM_frame_1 ic_0 ?_
  refine Mp_M_194 (pc := 2) hF dM_frame_2 ?_
  refine jq_aload_n (pc := 5) hF 0 dM_frame_5 rfl ?_
  refine jq_iconst (pc := 6) hF dM_frame_6 ic_0 ?_
  refine Mp_M_197 (pc := 7) hF dM_frame_7 ?_
  refine jq_aload_n (pc := 10) hF 0 dM_frame_10 rfl ?_
  refine jq_iconst (pc := 11) hF dM_frame_11 ic_0 ?_
  refine Mp_M_203 (pc := 12) hF dM_frame_12 ?_
  refine jq_aload_n (pc := 15) hF 0 dM_frame_15 rfl ?_
  refine jq_iload_n (pc := 16) hF 1 dM_frame_16 rfl ?_
  refine jq_iload_n (pc := 17) hF 2 dM_frame_17 rfl ?_
  refine jq_cVV (pc := 18) hF (As := [.int (p), .int (tag)]) (rest := []) (mM_arrive l D a cI cZ (sU (sU (sU τ 0 8 (nI (0))) 0 9 (nI (0))) 0 10 (nI (0))) (p) (tag) (vp_in_nI (n := 0) (by decide) (by decide))) (jG_v mL_M_200 mI_M_arrive mS_M_arrive mZ_M mC_M_arrive) rfl rfl rfl dd_M_arrive ⟨Nat.le_of_ble_eq_true rfl, Nat.le_of_ble_eq_true rfl⟩ 0 rfl rfl rfl rfl (Nat.le_of_ble_eq_true rfl) dM_frame_18 ?_
  refine jq_w (wM a cI cZ (mStart τ p tag)) (congrArg (wM a cI cZ) (by rfl)) ?_
  refine jq_iconst (pc := 21) hF dM_frame_21 ic_0 ?_
  refine jq_istore (pc := 22) hF [(5, .int (nI 0)), (0, .ref (a 0)), (1, .int (p)), (2, .int (tag)), (3, .int (nI src)), (4, .int (tgt))] dM_frame_22 (Nat.le_of_ble_eq_true rfl) rfl ?_
  have lp24 : ∀ i, i ≤ 64 → ∀ S : jS, mOkS S ∧ mRun src tgt i (64 - i) S = mRun src tgt 0 64 (mStart τ p tag) → jJ l D (rmD 6) 6 X (wM a cI cZ S) 24 [(5, .int (nI i)), (0, .ref (a 0)), (1, .int (p)), (2, .int (tag)), (3, .int (nI src)), (4, .int (tgt))] [] := by
    refine loop_st (fun i hi ih24 S hS => ?_)
    refine jq_iload (pc := 24) hF 0 dM_frame_24 rfl ?_
    refine jq_bipush (pc := 26) hF dM_frame_26 bi_64 ?_
    refine jq_icmp_geN (pc := 28) hF 67 (by omega) (by omega) dM_frame_28 rfl (fun h28 => ?_) (fun h28 => ?_)
    · have eS : S = mRun src tgt 0 64 (mStart τ p tag) := by
        rw [← hS.2]
        rw [show 64 - i = 0 by omega]
        rfl
      refine jq_w (wM a cI cZ (mRun src tgt 0 64 (mStart τ p tag))) (congrArg (wM a cI cZ) (by exact eS)) ?_
      refine jq_aload_n (pc := 67) hF 1 dM_frame_67 rfl ?_
      refine jq_aload_n (pc := 68) hF 1 dM_frame_68 rfl ?_
      refine Mg_M_217 (pc := 69) hF dM_frame_69 ?_
      refine jq_aload_n (pc := 72) hF 1 dM_frame_72 rfl ?_
      refine Mg_M_197 (pc := 73) hF dM_frame_73 ?_
      refine jq_iadd (pc := 76) hF dM_frame_76 ?_
      refine Mp_M_217 (pc := 77) hF dM_frame_77 ?_
      refine jq_aload_n (pc := 80) hF 1 dM_frame_80 rfl ?_
      refine Mg_M_203 (pc := 81) hF dM_frame_81 ?_
      exact jq_at (hk 84 _ dM_frame_84) (congrArg (wM a cI cZ) (by rfl)) rfl rfl (congrArg (fun z => [Value.int z]) (by rfl))
    · refine jq_iload (pc := 31) hF 0 dM_frame_31 rfl ?_
      refine jq_aload_n (pc := 33) hF 1 dM_frame_33 rfl ?_
      refine Mg_M_194 (pc := 34) hF dM_frame_34 ?_
      refine jq_icmp_ge (pc := 37) hF 67 dM_frame_37 rfl (fun h37 => ?_) (fun h37 => ?_)
      · have eS : S = mRun src tgt 0 64 (mStart τ p tag) := by
          rw [← hS.2]
          exact (mRun_stop h37).symm
        refine jq_w (wM a cI cZ (mRun src tgt 0 64 (mStart τ p tag))) (congrArg (wM a cI cZ) (by exact eS)) ?_
        refine jq_aload_n (pc := 67) hF 1 dM_frame_67 rfl ?_
        refine jq_aload_n (pc := 68) hF 1 dM_frame_68 rfl ?_
        refine Mg_M_217 (pc := 69) hF dM_frame_69 ?_
        refine jq_aload_n (pc := 72) hF 1 dM_frame_72 rfl ?_
        refine Mg_M_197 (pc := 73) hF dM_frame_73 ?_
        refine jq_iadd (pc := 76) hF dM_frame_76 ?_
        refine Mp_M_217 (pc := 77) hF dM_frame_77 ?_
        refine jq_aload_n (pc := 80) hF 1 dM_frame_80 rfl ?_
        refine Mg_M_203 (pc := 81) hF dM_frame_81 ?_
        exact jq_at (hk 84 _ dM_frame_84) (congrArg (wM a cI cZ) (by rfl)) rfl rfl (congrArg (fun z => [Value.int z]) (by rfl))
      · refine jq_aload_n (pc := 40) hF 1 dM_frame_40 rfl ?_
        refine jq_aload_n (pc := 41) hF 1 dM_frame_41 rfl ?_
        refine Mg_M_96 (pc := 42) hF dM_frame_42 ?_
        refine jq_iload (pc := 45) hF 0 dM_frame_45 rfl ?_
        refine Ml_28 (pc := 47) hF (by omega) dM_frame_47 ?_
        refine jq_top (nI ((S 28 (i)).toNatClampNeg)) (((hS.1.1.ln (i := i) (by omega)).cl (by decide)).2) ?_
        refine jq_aload_n (pc := 48) hF 1 dM_frame_48 rfl ?_
        refine Mg_M_99 (pc := 49) hF dM_frame_49 ?_
        refine jq_iload (pc := 52) hF 0 dM_frame_52 rfl ?_
        refine Ml_29 (pc := 54) hF (by omega) dM_frame_54 ?_
        refine jq_iload_n (pc := 55) hF 4 dM_frame_55 rfl ?_
        refine jq_iload (pc := 56) hF 5 dM_frame_56 rfl ?_
        refine jq_cVV (pc := 58) hF (As := [.int (nI ((S 28 (i)).toNatClampNeg)), .int (S 29 (i)), .int (nI src), .int (tgt)]) (rest := []) (mM_handle l D a cI cZ S ((S 28 (i)).toNatClampNeg) (S 29 (i)) (src) (tgt) ((hS.1.1.ln (i := i) (by omega)).cl (by decide)).1 (hS.1.1.lt (by omega)) hs hT hS.1) (jG_v mL_M_213 mI_M_handle mS_M_handle mZ_M mC_M_handle) rfl rfl rfl dd_M_handle ⟨Nat.le_of_ble_eq_true rfl, Nat.le_of_ble_eq_true rfl⟩ 0 rfl rfl rfl rfl (Nat.le_of_ble_eq_true rfl) dM_frame_58 ?_
        refine jq_iincN (pc := 61) hF 0 [(5, .int (nI (i + 1))), (0, .ref (a 0)), (1, .int (p)), (2, .int (tag)), (3, .int (nI src)), (4, .int (tgt))] dM_frame_61 rfl (Nat.le_of_ble_eq_true rfl) rfl ?_
        refine jq_goto (pc := 64) hF 24 dM_frame_64 rfl ?_
        refine jq_sub [(5, .int (nI (i + 1))), (0, .ref (a 0)), (1, .int (p)), (2, .int (tag)), (3, .int (nI src)), (4, .int (tgt))] [0, 1, 2, 3, 4, 5] rfl ?_
        exact jq_at (ih24 (by omega) ((mHandle S ((S 28 (i)).toNatClampNeg) (S 29 (i)) (src) (tgt))) ⟨mHandle_ok hS.1 ((hS.1.1.ln (i := i) (by omega)).cl (by decide)).1 (hS.1.1.lt (by omega)) src tgt, by rw [← hS.2, show 64 - i = (64 - (i + 1)) + 1 by omega, mRun_go h37]⟩) rfl rfl rfl rfl
  exact jq_at (lp24 0 (by omega) (mStart τ p tag) ⟨mStart_ok hI hp ht, rfl⟩) rfl rfl rfl rfl
set_option maxHeartbeats 4000000 in
set_option maxRecDepth 100000 in
theorem mM_reaches (l : Launch) (D : va_G) (a : Nat → Nat) (cI cZ : ClassId) (τ : jS) (f : Nat) (to : Int32) (nw : Int32) (whom : Int32) (hf : f < 7) (hr : f = 6 → okP 24 (τ 0 7)) (hn : okP 4 nw) (hT : okQ 7 to) (hI : mInv τ) : jI l yM_reaches w_M_reaches (rmD 7) D (jTys cI cZ) [.ref (a 0), .int (nI f), .int (to), .int (nw), .int (whom)] (wM a cI cZ τ) (wM a cI cZ (mR τ f to nw)) (bI (mRB τ f to nw whom)) := by
  refine jI_of (ws' := jG) (bI_nw _) (by decide) rfl (Nat.le_of_ble_eq_true rfl) ?_
  intro X hF hk
  show jJ l D (rmD 7) 6 X (wM a cI cZ τ) 0 [(0, .ref (a 0)), (1, .int (nI f)), (2, .int (to)), (3, .int (nw)), (4, .int (whom))] []
  refine jq_iconst (pc := 0) hF dM_reaches_0 ic_0 ?_
  refine jq_istore (pc := 1) hF [(5, .int (nI 0)), (0, .ref (a 0)), (1, .int (nI f)), (2, .int (to)), (3, .int (nw)), (4, .int (whom))] dM_reaches_1 (Nat.le_of_ble_eq_true rfl) rfl ?_
  refine jq_iload_n (pc := 3) hF 2 dM_reaches_3 rfl ?_
  refine jq_bipush (pc := 4) hF dM_reaches_4 bi_6 ?_
  refine jq_icmp_geN (pc := 6) hF 27 (by omega) (by omega) dM_reaches_6 rfl (fun h6 => ?_) (fun h6 => ?_)
  · refine jq_aload_n (pc := 27) hF 1 dM_reaches_27 rfl ?_
    refine jq_aload_n (pc := 28) hF 1 dM_reaches_28 rfl ?_
    refine Mg_M_56 (pc := 29) hF dM_reaches_29 ?_
    refine jq_iload_n (pc := 32) hF 4 dM_reaches_32 rfl ?_
    refine jq_aload_n (pc := 33) hF 1 dM_reaches_33 rfl ?_
    refine Mg_M_32 (pc := 34) hF dM_reaches_34 ?_
    refine jq_aload_n (pc := 37) hF 1 dM_reaches_37 rfl ?_
    refine Mg_M_56 (pc := 38) hF dM_reaches_38 ?_
    refine ML_8 (pc := 41) hF ((hr (by omega)).inn (by decide)) dM_reaches_41 ?_
    have j50 : jJ l D (rmD 7) 6 X (wM a cI cZ τ) 50 [(5, .int (nI 0)), (0, .ref (a 0)), (1, .int (nI f)), (2, .int (to)), (3, .int (nw)), (4, .int (whom))] [.int (if ¬ (nw = τ 8 (τ 0 7).toNatClampNeg) then nw else -1), .int (τ 0 7), .ref (a 0)] := by
      refine jq_bipush (pc := 50) hF dM_reaches_50 bi_6 ?_
      refine jq_iload_n (pc := 52) hF 3 dM_reaches_52 rfl ?_
      refine jq_cVI (pc := 53) hF (As := [.int (τ 0 7), .int (if ¬ (nw = τ 8 (τ 0 7).toNatClampNeg) then nw else -1), .int (nI 6), .int (to)]) (rest := []) (mM_frame l D a cI cZ τ (τ 0 7) (if ¬ (nw = τ 8 (τ 0 7).toNatClampNeg) then nw else -1) (6) (to) (hr (by omega)) (by split; exact Or.inr hn; exact Or.inl rfl) (by decide) hT hI) (jG_v mL_M_223 mI_M_frame mS_M_frame mZ_M mC_M_frame) rfl rfl rfl dd_M_frame ⟨Nat.le_of_ble_eq_true rfl, Nat.le_of_ble_eq_true rfl⟩ 0 rfl rfl rfl rfl (Nat.le_of_ble_eq_true rfl) dM_reaches_53 ?_
      refine jq_w (wM a cI cZ (mR τ f to nw)) (congrArg (wM a cI cZ) (by exact (if_pos h6).symm)) ?_
      refine jq_top ((mR τ f to nw) 0 10) (by unfold mR; rw [if_pos h6]) ?_
      refine jq_istore (pc := 56) hF [(5, .int ((mR τ f to nw) 0 10)), (0, .ref (a 0)), (1, .int (nI f)), (2, .int (to)), (3, .int (nw)), (4, .int (whom))] dM_reaches_56 (Nat.le_of_ble_eq_true rfl) rfl ?_
      refine jq_iload (pc := 58) hF 0 dM_reaches_58 rfl ?_
      refine jq_iload (pc := 60) hF 5 dM_reaches_60 rfl ?_
      refine jq_ishr (pc := 62) hF dM_reaches_62 ?_
      refine jq_iconst (pc := 63) hF dM_reaches_63 ic_1 ?_
      refine jq_iand (pc := 64) hF dM_reaches_64 ?_
      refine jq_iconst (pc := 65) hF dM_reaches_65 ic_1 ?_
      refine jq_icmp_ne (pc := 66) hF 73 dM_reaches_66 rfl (fun h66 => ?_) (fun h66 => ?_)
      · refine jq_iconst (pc := 73) hF dM_reaches_73 ic_0 ?_
        exact jq_at (hk 74 _ dM_reaches_74) rfl rfl rfl (congrArg (fun z => [Value.int z]) (bI0 (by simp [mRB, cHasBit, h66])))
      · refine jq_iconst (pc := 69) hF dM_reaches_69 ic_1 ?_
        refine jq_goto (pc := 70) hF 74 dM_reaches_70 rfl ?_
        exact jq_at (hk 74 _ dM_reaches_74) rfl rfl rfl (congrArg (fun z => [Value.int z]) (bI1 (by simp [mRB, cHasBit, h66])))
    refine jq_icmp_ne (pc := 42) hF 49 dM_reaches_42 rfl (fun h42 => ?_) (fun h42 => ?_)
    · refine jq_iload_n (pc := 49) hF 4 dM_reaches_49 rfl ?_
      exact jq_at j50 rfl rfl rfl (by rw [if_pos h42])
    · refine jq_iconst (pc := 45) hF dM_reaches_45 ic_m1 ?_
      refine jq_goto (pc := 46) hF 50 dM_reaches_46 rfl ?_
      exact jq_at j50 rfl rfl rfl (by rw [if_neg (show ¬ (¬ (nw = τ 8 (τ 0 7).toNatClampNeg)) by simp [h42])])
  · refine jq_aload_n (pc := 9) hF 1 dM_reaches_9 rfl ?_
    refine jq_aload_n (pc := 10) hF 1 dM_reaches_10 rfl ?_
    refine Mg_M_50 (pc := 11) hF dM_reaches_11 ?_
    refine jq_iload_n (pc := 14) hF 2 dM_reaches_14 rfl ?_
    refine Ml_14 (pc := 15) hF (by omega) dM_reaches_15 ?_
    refine jq_iconst (pc := 16) hF dM_reaches_16 ic_m1 ?_
    refine jq_iload_n (pc := 17) hF 2 dM_reaches_17 rfl ?_
    refine jq_iload_n (pc := 18) hF 3 dM_reaches_18 rfl ?_
    refine jq_cVI (pc := 19) hF (As := [.int (τ 14 (f)), .int (-1), .int (nI f), .int (to)]) (rest := []) (mM_frame l D a cI cZ τ (τ 14 (f)) (-1) (f) (to) (hI.at_ (by omega)) (Or.inl rfl) hf hT hI) (jG_v mL_M_223 mI_M_frame mS_M_frame mZ_M mC_M_frame) rfl rfl rfl dd_M_frame ⟨Nat.le_of_ble_eq_true rfl, Nat.le_of_ble_eq_true rfl⟩ 0 rfl rfl rfl rfl (Nat.le_of_ble_eq_true rfl) dM_reaches_19 ?_
    refine jq_w (wM a cI cZ (mR τ f to nw)) (congrArg (wM a cI cZ) (by exact (if_neg (Nat.not_le.mpr h6)).symm)) ?_
    refine jq_top ((mR τ f to nw) 0 10) (by unfold mR; rw [if_neg (Nat.not_le.mpr h6)]) ?_
    refine jq_istore (pc := 22) hF [(5, .int ((mR τ f to nw) 0 10)), (0, .ref (a 0)), (1, .int (nI f)), (2, .int (to)), (3, .int (nw)), (4, .int (whom))] dM_reaches_22 (Nat.le_of_ble_eq_true rfl) rfl ?_
    refine jq_goto (pc := 24) hF 58 dM_reaches_24 rfl ?_
    refine jq_iload (pc := 58) hF 0 dM_reaches_58 rfl ?_
    refine jq_iload (pc := 60) hF 5 dM_reaches_60 rfl ?_
    refine jq_ishr (pc := 62) hF dM_reaches_62 ?_
    refine jq_iconst (pc := 63) hF dM_reaches_63 ic_1 ?_
    refine jq_iand (pc := 64) hF dM_reaches_64 ?_
    refine jq_iconst (pc := 65) hF dM_reaches_65 ic_1 ?_
    refine jq_icmp_ne (pc := 66) hF 73 dM_reaches_66 rfl (fun h66 => ?_) (fun h66 => ?_)
    · refine jq_iconst (pc := 73) hF dM_reaches_73 ic_0 ?_
      exact jq_at (hk 74 _ dM_reaches_74) rfl rfl rfl (congrArg (fun z => [Value.int z]) (bI0 (by simp [mRB, cHasBit, h66])))
    · refine jq_iconst (pc := 69) hF dM_reaches_69 ic_1 ?_
      refine jq_goto (pc := 70) hF 74 dM_reaches_70 rfl ?_
      exact jq_at (hk 74 _ dM_reaches_74) rfl rfl rfl (congrArg (fun z => [Value.int z]) (bI1 (by simp [mRB, cHasBit, h66])))
set_option maxHeartbeats 4000000 in
set_option maxRecDepth 100000 in
theorem mM_askNear (l : Launch) (D : va_G) (a : Nat → Nat) (cI cZ : ClassId) (τ : jS) (f : Nat) (t : Nat) (hf : f < 6) (ht : t < 6) (hI : mInv τ) : jI l yM_askNear w_M_askNear (rmD 8) D (jTys cI cZ) [.ref (a 0), .int (nI f), .int (nI t)] (wM a cI cZ τ) (wM a cI cZ ((mAskN τ f t).1)) ((mAskN τ f t).2) := by
  refine jI_of (ws' := jG) rfl (by decide) rfl (Nat.le_of_ble_eq_true rfl) ?_
  intro X hF hk
  show jJ l D (rmD 8) 3 X (wM a cI cZ τ) 0 [(0, .ref (a 0)), (1, .int (nI f)), (2, .int (nI t))] []
  refine jq_aload_n (pc := 0) hF 0 dM_askNear_0 rfl ?_
  refine jq_iload_n (pc := 1) hF 1 dM_askNear_1 rfl ?_
  refine jq_iconst (pc := 2) hF dM_askNear_2 ic_m1 ?_
  refine jq_iconst (pc := 3) hF dM_askNear_3 ic_0 ?_
  refine jq_iload_n (pc := 4) hF 2 dM_askNear_4 rfl ?_
  refine jq_cVI (pc := 5) hF (As := [.int (nI f), .int (-1), .int (nI 0), .int (nI t)]) (rest := []) (mM_reaches l D a cI cZ τ (f) (-1) (nI (0)) (nI (t)) (by omega) (fun e => absurd e (by omega)) ⟨0, by decide, rfl⟩ (Or.inl rfl) hI) (jG_v mL_M_237 mI_M_reaches mS_M_reaches mZ_M mC_M_reaches) rfl rfl rfl dd_M_reaches ⟨Nat.le_of_ble_eq_true rfl, Nat.le_of_ble_eq_true rfl⟩ 0 rfl rfl rfl rfl (Nat.le_of_ble_eq_true rfl) dM_askNear_5 ?_
  refine jq_if_neB (pc := 8) hF 13 dM_askNear_8 rfl (fun h8 => ?_) (fun h8 => ?_)
  · refine jq_aload_n (pc := 13) hF 0 dM_askNear_13 rfl ?_
    refine jq_iload_n (pc := 14) hF 2 dM_askNear_14 rfl ?_
    refine jq_iload_n (pc := 15) hF 1 dM_askNear_15 rfl ?_
    refine jq_iconst (pc := 16) hF dM_askNear_16 ic_0 ?_
    refine jq_iload_n (pc := 17) hF 1 dM_askNear_17 rfl ?_
    refine jq_cVI (pc := 18) hF (As := [.int (nI t), .int (nI f), .int (nI 0), .int (nI f)]) (rest := []) (mM_reaches l D a cI cZ (mR τ (f) (-1) (nI (0))) (t) (nI (f)) (nI (0)) (nI (f)) (by omega) (fun e => absurd e (by omega)) ⟨0, by decide, rfl⟩ (okQn (by omega)) (mR_inv hI (by omega) (fun e => absurd e (by omega)) ⟨0, by decide, rfl⟩)) (jG_v mL_M_237 mI_M_reaches mS_M_reaches mZ_M mC_M_reaches) rfl rfl rfl dd_M_reaches ⟨Nat.le_of_ble_eq_true rfl, Nat.le_of_ble_eq_true rfl⟩ 0 rfl rfl rfl rfl (Nat.le_of_ble_eq_true rfl) dM_askNear_18 ?_
    refine jq_if_neB (pc := 21) hF 26 dM_askNear_21 rfl (fun h21 => ?_) (fun h21 => ?_)
    · refine jq_aload_n (pc := 26) hF 0 dM_askNear_26 rfl ?_
      refine jq_iload_n (pc := 27) hF 1 dM_askNear_27 rfl ?_
      refine jq_iload_n (pc := 28) hF 2 dM_askNear_28 rfl ?_
      refine jq_iconst (pc := 29) hF dM_askNear_29 ic_0 ?_
      refine jq_iload_n (pc := 30) hF 2 dM_askNear_30 rfl ?_
      refine jq_cVI (pc := 31) hF (As := [.int (nI f), .int (nI t), .int (nI 0), .int (nI t)]) (rest := []) (mM_reaches l D a cI cZ (mR (mR τ (f) (-1) (nI (0))) (t) (nI (f)) (nI (0))) (f) (nI (t)) (nI (0)) (nI (t)) (by omega) (fun e => absurd e (by omega)) ⟨0, by decide, rfl⟩ (okQn (by omega)) (mR_inv (mR_inv hI (by omega) (fun e => absurd e (by omega)) ⟨0, by decide, rfl⟩) (by omega) (fun e => absurd e (by omega)) ⟨0, by decide, rfl⟩)) (jG_v mL_M_237 mI_M_reaches mS_M_reaches mZ_M mC_M_reaches) rfl rfl rfl dd_M_reaches ⟨Nat.le_of_ble_eq_true rfl, Nat.le_of_ble_eq_true rfl⟩ 0 rfl rfl rfl rfl (Nat.le_of_ble_eq_true rfl) dM_askNear_31 ?_
      refine jq_if_neB (pc := 34) hF 39 dM_askNear_34 rfl (fun h34 => ?_) (fun h34 => ?_)
      · refine jq_aload_n (pc := 39) hF 0 dM_askNear_39 rfl ?_
        refine jq_iload_n (pc := 40) hF 2 dM_askNear_40 rfl ?_
        refine jq_iload_n (pc := 41) hF 1 dM_askNear_41 rfl ?_
        refine jq_iconst (pc := 42) hF dM_askNear_42 ic_0 ?_
        refine jq_iload_n (pc := 43) hF 1 dM_askNear_43 rfl ?_
        refine jq_cVI (pc := 44) hF (As := [.int (nI t), .int (nI f), .int (nI 0), .int (nI f)]) (rest := []) (mM_reaches l D a cI cZ (mR (mR (mR τ (f) (-1) (nI (0))) (t) (nI (f)) (nI (0))) (f) (nI (t)) (nI (0))) (t) (nI (f)) (nI (0)) (nI (f)) (by omega) (fun e => absurd e (by omega)) ⟨0, by decide, rfl⟩ (okQn (by omega)) (mR_inv (mR_inv (mR_inv hI (by omega) (fun e => absurd e (by omega)) ⟨0, by decide, rfl⟩) (by omega) (fun e => absurd e (by omega)) ⟨0, by decide, rfl⟩) (by omega) (fun e => absurd e (by omega)) ⟨0, by decide, rfl⟩)) (jG_v mL_M_237 mI_M_reaches mS_M_reaches mZ_M mC_M_reaches) rfl rfl rfl dd_M_reaches ⟨Nat.le_of_ble_eq_true rfl, Nat.le_of_ble_eq_true rfl⟩ 0 rfl rfl rfl rfl (Nat.le_of_ble_eq_true rfl) dM_askNear_44 ?_
        refine jq_if_eqB (pc := 47) hF 54 dM_askNear_47 rfl (fun h47 => ?_) (fun h47 => ?_)
        · refine jq_iconst (pc := 54) hF dM_askNear_54 ic_3 ?_
          exact jq_at (hk 55 _ dM_askNear_55) (congrArg (wM a cI cZ) (by simp [mAskN, h8, h21, h34, h47])) rfl rfl (congrArg (fun z => [Value.int z]) (by simp [mAskN, h8, h21, h34, h47]))
        · refine jq_iconst (pc := 50) hF dM_askNear_50 ic_4 ?_
          refine jq_goto (pc := 51) hF 55 dM_askNear_51 rfl ?_
          exact jq_at (hk 55 _ dM_askNear_55) (congrArg (wM a cI cZ) (by simp [mAskN, h8, h21, h34, h47])) rfl rfl (congrArg (fun z => [Value.int z]) (by simp [mAskN, h8, h21, h34, h47]))
      · refine jq_iconst (pc := 37) hF dM_askNear_37 ic_2 ?_
        exact jq_at (hk 38 _ dM_askNear_38) (congrArg (wM a cI cZ) (by simp [mAskN, h8, h21, h34])) rfl rfl (congrArg (fun z => [Value.int z]) (by simp [mAskN, h8, h21, h34]))
    · refine jq_iconst (pc := 24) hF dM_askNear_24 ic_1 ?_
      exact jq_at (hk 25 _ dM_askNear_25) (congrArg (wM a cI cZ) (by simp [mAskN, h8, h21])) rfl rfl (congrArg (fun z => [Value.int z]) (by simp [mAskN, h8, h21]))
  · refine jq_iconst (pc := 11) hF dM_askNear_11 ic_0 ?_
    exact jq_at (hk 12 _ dM_askNear_12) (congrArg (wM a cI cZ) (by simp [mAskN, h8])) rfl rfl (congrArg (fun z => [Value.int z]) (by simp [mAskN, h8]))
