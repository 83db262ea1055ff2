/-! held, ask (wip/whole/gen/specM4.py) -/
def mHeldB (τ : jS) (p : Int32) : Bool := mIsPlace τ p && !decide (τ 16 p.toNatClampNeg = 0)
def mHeldV (τ : jS) (p : Nat) (w : Int32) : Int32 :=
  if w = nI 0 then τ 17 p else if w = nI 1 then τ 18 p else if w = nI 2 then τ 19 p else if w = nI 3 then τ 20 p else if w = nI 4 then τ 21 p else if w = nI 5 then bI (!decide (τ 22 p = 0)) else -1
theorem mHeldV5 (τ : jS) (p : Nat) : mHeldV τ p (nI 5) = bI (!decide (τ 22 p = 0)) := rfl
theorem mHeldVn {τ : jS} {p : Nat} {w : Int32} (h : (¬ w = nI 0 ∧ ¬ w = nI 1 ∧ ¬ w = nI 2 ∧ ¬ w = nI 3 ∧ ¬ w = nI 4 ∧ ¬ w = nI 5)) : mHeldV τ p w = -1 := by
  unfold mHeldV
  rw [if_neg h.1, if_neg h.2.1, if_neg h.2.2.1, if_neg h.2.2.2.1, if_neg h.2.2.2.2.1, if_neg h.2.2.2.2.2]
theorem sw6 (w : Int32) : w = nI 0 ∨ w = nI 1 ∨ w = nI 2 ∨ w = nI 3 ∨ w = nI 4 ∨ w = nI 5 ∨ (¬ w = nI 0 ∧ ¬ w = nI 1 ∧ ¬ w = nI 2 ∧ ¬ w = nI 3 ∧ ¬ w = nI 4 ∧ ¬ w = nI 5) := by
  by_cases h0 : w = nI 0
  · exact Or.inl h0
  · by_cases h1 : w = nI 1
    · exact Or.inr (Or.inl h1)
    · by_cases h2 : w = nI 2
      · exact Or.inr (Or.inr (Or.inl h2))
      · by_cases h3 : w = nI 3
        · exact Or.inr (Or.inr (Or.inr (Or.inl h3)))
        · by_cases h4 : w = nI 4
          · exact Or.inr (Or.inr (Or.inr (Or.inr (Or.inl h4))))
          · by_cases h5 : w = nI 5
            · exact Or.inr (Or.inr (Or.inr (Or.inr (Or.inr (Or.inl h5)))))
            · exact Or.inr (Or.inr (Or.inr (Or.inr (Or.inr (Or.inr ⟨h0, h1, h2, h3, h4, h5⟩)))))
theorem sw6n {w : Int32} (h : (¬ w = nI 0 ∧ ¬ w = nI 1 ∧ ¬ w = nI 2 ∧ ¬ w = nI 3 ∧ ¬ w = nI 4 ∧ ¬ w = nI 5)) : w.toInt < 0 ∨ 5 < w.toInt := by
  by_cases h0 : w < 0
  · exact Or.inl (by simpa using Int32.lt_iff_toInt_lt.mp h0)
  · right
    obtain ⟨k, hk, rfl⟩ := nI_of h0
    rw [nI_toInt hk]
    have n0 : ¬ k = 0 := fun e => h.1 (by rw [e])
    have n1 : ¬ k = 1 := fun e => h.2.1 (by rw [e])
    have n2 : ¬ k = 2 := fun e => h.2.2.1 (by rw [e])
    have n3 : ¬ k = 3 := fun e => h.2.2.2.1 (by rw [e])
    have n4 : ¬ k = 4 := fun e => h.2.2.2.2.1 (by rw [e])
    have n5 : ¬ k = 5 := fun e => h.2.2.2.2.2 (by rw [e])
    omega
def mStp (τ : jS) (f : Nat) (to nw whom n : Int32) (k : jS → jS × Int32) : jS × Int32 := if mRB τ f to nw whom = true then k (mR τ f to nw) else (mR τ f to nw, n)
def mAskX (τ : jS) (f t : Nat) (he th : Int32) : jS × Int32 :=
  mStp τ f (-1) (nI 0) (nI 6) (nI 0) fun s => mStp s 6 (nI f) he (nI f) (nI 1) fun s => mStp s f (nI 6) (nI 0) (nI 6) (nI 2) fun s => mStp s 6 (-1) th (nI t) (nI 3) fun s =>
  mStp s t (nI 6) (nI 0) (nI 6) (nI 4) fun s => mStp s 6 (nI t) th (nI t) (nI 5) fun s => mStp s t (nI 6) (nI 0) (nI 6) (nI 6) fun s => (mR s 6 (nI f) he, if mRB s 6 (nI f) he (nI f) = true then nI 8 else nI 7)
def mDir (τ : jS) (f t : Nat) : Bool := !decide (¬ (τ 15 f = τ 15 t))
def mAskB (τ : jS) (f t : Int32) : Bool := mIsHost τ f && mIsHost τ t && (mDir τ f.toNatClampNeg t.toNatClampNeg || decide (0 ≤ τ 0 7))
def mAskF (τ : jS) (f t : Nat) : jS × Int32 := if mDir τ f t = true then mAskN (sU τ 0 11 (nI 0)) f t else mAskX (sU τ 0 11 (nI 0)) f t (τ 15 f) (τ 15 t)
def mAskSt (τ : jS) (f t : Nat) (v : Int32) : jS := if ¬ (mAskF τ f t).2 = nI (if mDir τ f t = false then 8 else 4) then (mAskF τ f t).1 else sU (mAskF τ f t).1 0 12 (nI 31 * v + nI t)
theorem k7_forN {f : Nat → jS → jS} (h : ∀ i τ, f i τ 0 7 = τ 0 7) (τ : jS) : ∀ n, forN f τ n 0 7 = τ 0 7 := by
  intro n
  induction n with
  | zero => rfl
  | succ n ih => exact (h n _).trans ih
theorem mGoOut_07 (τ : jS) (p : Nat) (nw : Int32) : mGoOut τ p nw 0 7 = τ 0 7 := by
  unfold mGoOut
  split
  · split
    · split <;> rfl
    · rfl
  · rfl
theorem mFwd1_07 (p nw : Nat) (kn : Int32) (k : Nat) (τ : jS) : mFwd1 p nw kn k τ 0 7 = τ 0 7 := by
  unfold mFwd1
  split
  · split
    · rfl
    · split
      · rfl
      · exact mGoOut_07 _ _ _
  · rfl
theorem mHandle_07 (τ : jS) (p : Nat) (tag : Int32) (src : Nat) (tgt : Int32) : mHandle τ p tag src tgt 0 7 = τ 0 7 := by
  unfold mHandle
  split
  · unfold mHandG
    split
    · exact (k7_forN (mFwd1_07 _ _ _) _ 4).trans rfl
    · rfl
  · rfl
theorem mRun_07 (src : Nat) (tgt : Int32) : ∀ (f i : Nat) (τ : jS), mRun src tgt i f τ 0 7 = τ 0 7 := by
  intro f
  induction f with
  | zero => exact fun _ _ => rfl
  | succ f ih =>
    intro i τ
    by_cases h : τ 0 8 ≤ nI i
    · rw [mRun_stop h]
    · rw [mRun_go h, ih]; exact mHandle_07 _ _ _ _ _
theorem mFrame_07 (τ : jS) (p tag : Int32) (src : Nat) (tgt : Int32) : mFrame τ p tag src tgt 0 7 = τ 0 7 := (show mFin (mRun src tgt 0 64 (mStart τ p tag)) 0 7 = mRun src tgt 0 64 (mStart τ p tag) 0 7 from rfl).trans ((mRun_07 src tgt 64 0 _).trans rfl)
theorem mR_07e (τ : jS) (f : Nat) (to nw : Int32) : mR τ f to nw 0 7 = τ 0 7 := by
  unfold mR
  split
  · exact mFrame_07 _ _ _ _ _
  · exact mFrame_07 _ _ _ _ _
theorem mR_07 {τ : jS} {f : Nat} {to nw : Int32} (h : okP 24 (τ 0 7)) : okP 24 (mR τ f to nw 0 7) := by rw [mR_07e]; exact h
set_option maxHeartbeats 4000000 in
set_option maxRecDepth 100000 in
theorem mM_held (l : Launch) (D : va_G) (a : Nat → Nat) (cI cZ : ClassId) (τ : jS) (p : Int32) (w : Int32) (hI : mInv τ) : jI l yM_held w_M_held (rmD 1) D (jTys cI cZ) [.ref (a 0), .int (p), .int (w)] (wM a cI cZ τ) (wM a cI cZ (τ)) (if mHeldB τ p = true then mHeldV τ (p).toNatClampNeg w else -1) := by
  refine jI_of (ws' := jG) rfl (by decide) rfl (Nat.le_of_ble_eq_true rfl) ?_
  intro X hF hk
  show jJ l D (rmD 1) 3 X (wM a cI cZ τ) 0 [(0, .ref (a 0)), (1, .int (p)), (2, .int (w))] []
  refine jq_aload_n (pc := 0) hF 0 dM_held_0 rfl ?_
  refine jq_iload_n (pc := 1) hF 1 dM_held_1 rfl ?_
  refine jq_cVI (pc := 2) hF (As := [.int (p)]) (rest := []) (mM_isPlace l D a cI cZ τ (p) ) (jG_v mL_M_118 mI_M_isPlace mS_M_isPlace mZ_M mC_M_isPlace) rfl rfl rfl dd_M_isPlace ⟨Nat.le_of_ble_eq_true rfl, Nat.le_of_ble_eq_true rfl⟩ 0 rfl rfl rfl rfl (Nat.le_of_ble_eq_true rfl) dM_held_2 ?_
  refine jq_if_eqB (pc := 5) hF 17 dM_held_5 rfl (fun h5 => ?_) (fun h5 => ?_)
  · refine jq_iconst (pc := 17) hF dM_held_17 ic_m1 ?_
    exact jq_at (hk 18 _ dM_held_18) rfl rfl rfl (congrArg (fun z => [Value.int z]) (by exact if_neg (by simp [mHeldB, h5])))
  · refine jq_aload_n (pc := 8) hF 0 dM_held_8 rfl ?_
    refine Mg_M_60 (pc := 9) hF dM_held_9 ?_
    refine jq_iload_n (pc := 12) hF 1 dM_held_12 rfl ?_
    refine ML_16 (pc := 13) hF (((vp_ok (mIsPlace_in hI h5) (by decide)).mono (n := 48) (by decide)).inn (by decide)) dM_held_13 ?_
    refine jq_if_ne (pc := 14) hF 19 dM_held_14 rfl (fun h14 => ?_) (fun h14 => ?_)
    · have hnb := hI.nbl.1
      have hB : mHeldB τ p = true := by simp [mHeldB, h5, h14]
      obtain ⟨k, rfl, hkk⟩ := mIsPlace_at hI h5
      refine jq_iload_n (pc := 19) hF 2 dM_held_19 rfl ?_
      rcases sw6 w with rfl | rfl | rfl | rfl | rfl | rfl | hc
      · refine jq_tabIn (pc := 20) hF 60 dM_held_20 (by decide) (by decide) (off := 40) (by decide) rfl ?_
        refine jq_aload_n (pc := 60) hF 0 dM_held_60 rfl ?_
        refine Mg_M_63 (pc := 61) hF dM_held_61 ?_
        refine jq_iload_n (pc := 64) hF 1 dM_held_64 rfl ?_
        refine Ml_17 (pc := 65) hF (by omega) dM_held_65 ?_
        exact jq_at (hk 66 _ dM_held_66) rfl rfl rfl (congrArg (fun z => [Value.int z]) (by rw [if_pos hB, nI_clamp (by omega)]; rfl))
      · refine jq_tabIn (pc := 20) hF 67 dM_held_20 (by decide) (by decide) (off := 47) (by decide) rfl ?_
        refine jq_aload_n (pc := 67) hF 0 dM_held_67 rfl ?_
        refine Mg_M_66 (pc := 68) hF dM_held_68 ?_
        refine jq_iload_n (pc := 71) hF 1 dM_held_71 rfl ?_
        refine Ml_18 (pc := 72) hF (by omega) dM_held_72 ?_
        exact jq_at (hk 73 _ dM_held_73) rfl rfl rfl (congrArg (fun z => [Value.int z]) (by rw [if_pos hB, nI_clamp (by omega)]; rfl))
      · refine jq_tabIn (pc := 20) hF 74 dM_held_20 (by decide) (by decide) (off := 54) (by decide) rfl ?_
        refine jq_aload_n (pc := 74) hF 0 dM_held_74 rfl ?_
        refine Mg_M_69 (pc := 75) hF dM_held_75 ?_
        refine jq_iload_n (pc := 78) hF 1 dM_held_78 rfl ?_
        refine Ml_19 (pc := 79) hF (by omega) dM_held_79 ?_
        exact jq_at (hk 80 _ dM_held_80) rfl rfl rfl (congrArg (fun z => [Value.int z]) (by rw [if_pos hB, nI_clamp (by omega)]; rfl))
      · refine jq_tabIn (pc := 20) hF 81 dM_held_20 (by decide) (by decide) (off := 61) (by decide) rfl ?_
        refine jq_aload_n (pc := 81) hF 0 dM_held_81 rfl ?_
        refine Mg_M_72 (pc := 82) hF dM_held_82 ?_
        refine jq_iload_n (pc := 85) hF 1 dM_held_85 rfl ?_
        refine Ml_20 (pc := 86) hF (by omega) dM_held_86 ?_
        exact jq_at (hk 87 _ dM_held_87) rfl rfl rfl (congrArg (fun z => [Value.int z]) (by rw [if_pos hB, nI_clamp (by omega)]; rfl))
      · refine jq_tabIn (pc := 20) hF 88 dM_held_20 (by decide) (by decide) (off := 68) (by decide) rfl ?_
        refine jq_aload_n (pc := 88) hF 0 dM_held_88 rfl ?_
        refine Mg_M_75 (pc := 89) hF dM_held_89 ?_
        refine jq_iload_n (pc := 92) hF 1 dM_held_92 rfl ?_
        refine Ml_21 (pc := 93) hF (by omega) dM_held_93 ?_
        exact jq_at (hk 94 _ dM_held_94) rfl rfl rfl (congrArg (fun z => [Value.int z]) (by rw [if_pos hB, nI_clamp (by omega)]; rfl))
      · refine jq_tabIn (pc := 20) hF 95 dM_held_20 (by decide) (by decide) (off := 75) (by decide) rfl ?_
        refine jq_aload_n (pc := 95) hF 0 dM_held_95 rfl ?_
        refine Mg_M_78 (pc := 96) hF dM_held_96 ?_
        refine jq_iload_n (pc := 99) hF 1 dM_held_99 rfl ?_
        refine Ml_22 (pc := 100) hF (by omega) dM_held_100 ?_
        have j109 : jJ l D (rmD 1) 3 X (wM a cI cZ τ) 109 [(0, .ref (a 0)), (1, .int (nI k)), (2, .int (nI 5))] [.int (bI (!decide (τ 22 (k) = 0)))] := by
          exact jq_at (hk 109 _ dM_held_109) rfl rfl rfl (congrArg (fun z => [Value.int z]) (by rw [if_pos hB, nI_clamp (by omega)]; exact (mHeldV5 τ k)))
        refine jq_if_eq (pc := 101) hF 108 dM_held_101 rfl (fun h101 => ?_) (fun h101 => ?_)
        · refine jq_iconst (pc := 108) hF dM_held_108 ic_0 ?_
          exact jq_at j109 rfl rfl rfl (by rw [decide_eq_true h101]; rfl)
        · refine jq_iconst (pc := 104) hF dM_held_104 ic_1 ?_
          refine jq_goto (pc := 105) hF 109 dM_held_105 rfl ?_
          exact jq_at j109 rfl rfl rfl (by rw [decide_eq_false h101]; rfl)
      · refine jq_tabOut (pc := 20) hF 110 dM_held_20 (sw6n hc) rfl ?_
        refine jq_iconst (pc := 110) hF dM_held_110 ic_m1 ?_
        exact jq_at (hk 111 _ dM_held_111) rfl rfl rfl (congrArg (fun z => [Value.int z]) (by rw [if_pos hB]; exact mHeldVn hc))
    · refine jq_iconst (pc := 17) hF dM_held_17 ic_m1 ?_
      exact jq_at (hk 18 _ dM_held_18) rfl rfl rfl (congrArg (fun z => [Value.int z]) (by exact if_neg (by simp [mHeldB, h5, h14])))
set_option maxHeartbeats 4000000 in
set_option maxRecDepth 100000 in
theorem mM_askFar (l : Launch) (D : va_G) (a : Nat → Nat) (cI cZ : ClassId) (τ : jS) (f : Nat) (t : Nat) (he : Int32) (th : Int32) (hf : f < 6) (ht : t < 6) (h1 : okP 4 he) (h2 : okP 4 th) (hR : okP 24 (τ 0 7)) (hI : mInv τ) : jI l yM_askFar w_M_askFar (rmD 8) D (jTys cI cZ) [.ref (a 0), .int (nI f), .int (nI t), .int (he), .int (th)] (wM a cI cZ τ) (wM a cI cZ ((mAskX τ f t he th).1)) ((mAskX τ f t he th).2) := by
  refine jI_of (ws' := jG) rfl (by decide) rfl (Nat.le_of_ble_eq_true rfl) ?_
  intro X hF hk
  show jJ l D (rmD 8) 5 X (wM a cI cZ τ) 0 [(0, .ref (a 0)), (1, .int (nI f)), (2, .int (nI t)), (3, .int (he)), (4, .int (th))] []
  refine jq_aload_n (pc := 0) hF 0 dM_askFar_0 rfl ?_
  refine jq_iload_n (pc := 1) hF 1 dM_askFar_1 rfl ?_
  refine jq_iconst (pc := 2) hF dM_askFar_2 ic_m1 ?_
  refine jq_iconst (pc := 3) hF dM_askFar_3 ic_0 ?_
  refine jq_bipush (pc := 4) hF dM_askFar_4 bi_6 ?_
  refine jq_cVI (pc := 6) hF (As := [.int (nI f), .int (-1), .int (nI 0), .int (nI 6)]) (rest := []) (mM_reaches l D a cI cZ τ (f) (-1) (nI (0)) (nI (6)) (by omega) (fun _ => hR) ⟨0, by decide, rfl⟩ (Or.inl rfl) hI) (jG_v mL_M_237 mI_M_reaches mS_M_reaches mZ_M mC_M_reaches) rfl rfl rfl dd_M_reaches ⟨Nat.le_of_ble_eq_true rfl, Nat.le_of_ble_eq_true rfl⟩ 0 rfl rfl rfl rfl (Nat.le_of_ble_eq_true rfl) dM_askFar_6 ?_
  refine jq_if_neB (pc := 9) hF 14 dM_askFar_9 rfl (fun h9 => ?_) (fun h9 => ?_)
  · refine jq_aload_n (pc := 14) hF 0 dM_askFar_14 rfl ?_
    refine jq_bipush (pc := 15) hF dM_askFar_15 bi_6 ?_
    refine jq_iload_n (pc := 17) hF 1 dM_askFar_17 rfl ?_
    refine jq_iload_n (pc := 18) hF 3 dM_askFar_18 rfl ?_
    refine jq_iload_n (pc := 19) hF 1 dM_askFar_19 rfl ?_
    refine jq_cVI (pc := 20) hF (As := [.int (nI 6), .int (nI f), .int (he), .int (nI f)]) (rest := []) (mM_reaches l D a cI cZ (mR τ (f) (-1) (nI (0))) (6) (nI (f)) (he) (nI (f)) (by omega) (fun _ => (mR_07 hR)) h1 (okQn (by omega)) (mR_inv hI (by omega) (fun _ => hR) ⟨0, by decide, rfl⟩)) (jG_v mL_M_237 mI_M_reaches mS_M_reaches mZ_M mC_M_reaches) rfl rfl rfl dd_M_reaches ⟨Nat.le_of_ble_eq_true rfl, Nat.le_of_ble_eq_true rfl⟩ 0 rfl rfl rfl rfl (Nat.le_of_ble_eq_true rfl) dM_askFar_20 ?_
    refine jq_if_neB (pc := 23) hF 28 dM_askFar_23 rfl (fun h23 => ?_) (fun h23 => ?_)
    · refine jq_aload_n (pc := 28) hF 0 dM_askFar_28 rfl ?_
      refine jq_iload_n (pc := 29) hF 1 dM_askFar_29 rfl ?_
      refine jq_bipush (pc := 30) hF dM_askFar_30 bi_6 ?_
      refine jq_iconst (pc := 32) hF dM_askFar_32 ic_0 ?_
      refine jq_bipush (pc := 33) hF dM_askFar_33 bi_6 ?_
      refine jq_cVI (pc := 35) hF (As := [.int (nI f), .int (nI 6), .int (nI 0), .int (nI 6)]) (rest := []) (mM_reaches l D a cI cZ (mR (mR τ (f) (-1) (nI (0))) (6) (nI (f)) (he)) (f) (nI (6)) (nI (0)) (nI (6)) (by omega) (fun _ => (mR_07 (mR_07 hR))) ⟨0, by decide, rfl⟩ (okQn (by decide)) (mR_inv (mR_inv hI (by omega) (fun _ => hR) ⟨0, by decide, rfl⟩) (by omega) (fun _ => (mR_07 hR)) h1)) (jG_v mL_M_237 mI_M_reaches mS_M_reaches mZ_M mC_M_reaches) rfl rfl rfl dd_M_reaches ⟨Nat.le_of_ble_eq_true rfl, Nat.le_of_ble_eq_true rfl⟩ 0 rfl rfl rfl rfl (Nat.le_of_ble_eq_true rfl) dM_askFar_35 ?_
      refine jq_if_neB (pc := 38) hF 43 dM_askFar_38 rfl (fun h38 => ?_) (fun h38 => ?_)
      · refine jq_aload_n (pc := 43) hF 0 dM_askFar_43 rfl ?_
        refine jq_bipush (pc := 44) hF dM_askFar_44 bi_6 ?_
        refine jq_iconst (pc := 46) hF dM_askFar_46 ic_m1 ?_
        refine jq_iload (pc := 47) hF 4 dM_askFar_47 rfl ?_
        refine jq_iload_n (pc := 49) hF 2 dM_askFar_49 rfl ?_
        refine jq_cVI (pc := 50) hF (As := [.int (nI 6), .int (-1), .int (th), .int (nI t)]) (rest := []) (mM_reaches l D a cI cZ (mR (mR (mR τ (f) (-1) (nI (0))) (6) (nI (f)) (he)) (f) (nI (6)) (nI (0))) (6) (-1) (th) (nI (t)) (by omega) (fun _ => (mR_07 (mR_07 (mR_07 hR)))) h2 (Or.inl rfl) (mR_inv (mR_inv (mR_inv hI (by omega) (fun _ => hR) ⟨0, by decide, rfl⟩) (by omega) (fun _ => (mR_07 hR)) h1) (by omega) (fun _ => (mR_07 (mR_07 hR))) ⟨0, by decide, rfl⟩)) (jG_v mL_M_237 mI_M_reaches mS_M_reaches mZ_M mC_M_reaches) rfl rfl rfl dd_M_reaches ⟨Nat.le_of_ble_eq_true rfl, Nat.le_of_ble_eq_true rfl⟩ 0 rfl rfl rfl rfl (Nat.le_of_ble_eq_true rfl) dM_askFar_50 ?_
        refine jq_if_neB (pc := 53) hF 58 dM_askFar_53 rfl (fun h53 => ?_) (fun h53 => ?_)
        · refine jq_aload_n (pc := 58) hF 0 dM_askFar_58 rfl ?_
          refine jq_iload_n (pc := 59) hF 2 dM_askFar_59 rfl ?_
          refine jq_bipush (pc := 60) hF dM_askFar_60 bi_6 ?_
          refine jq_iconst (pc := 62) hF dM_askFar_62 ic_0 ?_
          refine jq_bipush (pc := 63) hF dM_askFar_63 bi_6 ?_
          refine jq_cVI (pc := 65) hF (As := [.int (nI t), .int (nI 6), .int (nI 0), .int (nI 6)]) (rest := []) (mM_reaches l D a cI cZ (mR (mR (mR (mR τ (f) (-1) (nI (0))) (6) (nI (f)) (he)) (f) (nI (6)) (nI (0))) (6) (-1) (th)) (t) (nI (6)) (nI (0)) (nI (6)) (by omega) (fun _ => (mR_07 (mR_07 (mR_07 (mR_07 hR))))) ⟨0, by decide, rfl⟩ (okQn (by decide)) (mR_inv (mR_inv (mR_inv (mR_inv hI (by omega) (fun _ => hR) ⟨0, by decide, rfl⟩) (by omega) (fun _ => (mR_07 hR)) h1) (by omega) (fun _ => (mR_07 (mR_07 hR))) ⟨0, by decide, rfl⟩) (by omega) (fun _ => (mR_07 (mR_07 (mR_07 hR)))) h2)) (jG_v mL_M_237 mI_M_reaches mS_M_reaches mZ_M mC_M_reaches) rfl rfl rfl dd_M_reaches ⟨Nat.le_of_ble_eq_true rfl, Nat.le_of_ble_eq_true rfl⟩ 0 rfl rfl rfl rfl (Nat.le_of_ble_eq_true rfl) dM_askFar_65 ?_
          refine jq_if_neB (pc := 68) hF 73 dM_askFar_68 rfl (fun h68 => ?_) (fun h68 => ?_)
          · refine jq_aload_n (pc := 73) hF 0 dM_askFar_73 rfl ?_
            refine jq_bipush (pc := 74) hF dM_askFar_74 bi_6 ?_
            refine jq_iload_n (pc := 76) hF 2 dM_askFar_76 rfl ?_
            refine jq_iload (pc := 77) hF 4 dM_askFar_77 rfl ?_
            refine jq_iload_n (pc := 79) hF 2 dM_askFar_79 rfl ?_
            refine jq_cVI (pc := 80) hF (As := [.int (nI 6), .int (nI t), .int (th), .int (nI t)]) (rest := []) (mM_reaches l D a cI cZ (mR (mR (mR (mR (mR τ (f) (-1) (nI (0))) (6) (nI (f)) (he)) (f) (nI (6)) (nI (0))) (6) (-1) (th)) (t) (nI (6)) (nI (0))) (6) (nI (t)) (th) (nI (t)) (by omega) (fun _ => (mR_07 (mR_07 (mR_07 (mR_07 (mR_07 hR)))))) h2 (okQn (by omega)) (mR_inv (mR_inv (mR_inv (mR_inv (mR_inv hI (by omega) (fun _ => hR) ⟨0, by decide, rfl⟩) (by omega) (fun _ => (mR_07 hR)) h1) (by omega) (fun _ => (mR_07 (mR_07 hR))) ⟨0, by decide, rfl⟩) (by omega) (fun _ => (mR_07 (mR_07 (mR_07 hR)))) h2) (by omega) (fun _ => (mR_07 (mR_07 (mR_07 (mR_07 hR))))) ⟨0, by decide, rfl⟩)) (jG_v mL_M_237 mI_M_reaches mS_M_reaches mZ_M mC_M_reaches) rfl rfl rfl dd_M_reaches ⟨Nat.le_of_ble_eq_true rfl, Nat.le_of_ble_eq_true rfl⟩ 0 rfl rfl rfl rfl (Nat.le_of_ble_eq_true rfl) dM_askFar_80 ?_
            refine jq_if_neB (pc := 83) hF 88 dM_askFar_83 rfl (fun h83 => ?_) (fun h83 => ?_)
            · refine jq_aload_n (pc := 88) hF 0 dM_askFar_88 rfl ?_
              refine jq_iload_n (pc := 89) hF 2 dM_askFar_89 rfl ?_
              refine jq_bipush (pc := 90) hF dM_askFar_90 bi_6 ?_
              refine jq_iconst (pc := 92) hF dM_askFar_92 ic_0 ?_
              refine jq_bipush (pc := 93) hF dM_askFar_93 bi_6 ?_
              refine jq_cVI (pc := 95) hF (As := [.int (nI t), .int (nI 6), .int (nI 0), .int (nI 6)]) (rest := []) (mM_reaches l D a cI cZ (mR (mR (mR (mR (mR (mR τ (f) (-1) (nI (0))) (6) (nI (f)) (he)) (f) (nI (6)) (nI (0))) (6) (-1) (th)) (t) (nI (6)) (nI (0))) (6) (nI (t)) (th)) (t) (nI (6)) (nI (0)) (nI (6)) (by omega) (fun _ => (mR_07 (mR_07 (mR_07 (mR_07 (mR_07 (mR_07 hR))))))) ⟨0, by decide, rfl⟩ (okQn (by decide)) (mR_inv (mR_inv (mR_inv (mR_inv (mR_inv (mR_inv hI (by omega) (fun _ => hR) ⟨0, by decide, rfl⟩) (by omega) (fun _ => (mR_07 hR)) h1) (by omega) (fun _ => (mR_07 (mR_07 hR))) ⟨0, by decide, rfl⟩) (by omega) (fun _ => (mR_07 (mR_07 (mR_07 hR)))) h2) (by omega) (fun _ => (mR_07 (mR_07 (mR_07 (mR_07 hR))))) ⟨0, by decide, rfl⟩) (by omega) (fun _ => (mR_07 (mR_07 (mR_07 (mR_07 (mR_07 hR)))))) h2)) (jG_v mL_M_237 mI_M_reaches mS_M_reaches mZ_M mC_M_reaches) rfl rfl rfl dd_M_reaches ⟨Nat.le_of_ble_eq_true rfl, Nat.le_of_ble_eq_true rfl⟩ 0 rfl rfl rfl rfl (Nat.le_of_ble_eq_true rfl) dM_askFar_95 ?_
              refine jq_if_neB (pc := 98) hF 104 dM_askFar_98 rfl (fun h98 => ?_) (fun h98 => ?_)
              · refine jq_aload_n (pc := 104) hF 0 dM_askFar_104 rfl ?_
                refine jq_bipush (pc := 105) hF dM_askFar_105 bi_6 ?_
                refine jq_iload_n (pc := 107) hF 1 dM_askFar_107 rfl ?_
                refine jq_iload_n (pc := 108) hF 3 dM_askFar_108 rfl ?_
                refine jq_iload_n (pc := 109) hF 1 dM_askFar_109 rfl ?_
                refine jq_cVI (pc := 110) hF (As := [.int (nI 6), .int (nI f), .int (he), .int (nI f)]) (rest := []) (mM_reaches l D a cI cZ (mR (mR (mR (mR (mR (mR (mR τ (f) (-1) (nI (0))) (6) (nI (f)) (he)) (f) (nI (6)) (nI (0))) (6) (-1) (th)) (t) (nI (6)) (nI (0))) (6) (nI (t)) (th)) (t) (nI (6)) (nI (0))) (6) (nI (f)) (he) (nI (f)) (by omega) (fun _ => (mR_07 (mR_07 (mR_07 (mR_07 (mR_07 (mR_07 (mR_07 hR)))))))) h1 (okQn (by omega)) (mR_inv (mR_inv (mR_inv (mR_inv (mR_inv (mR_inv (mR_inv hI (by omega) (fun _ => hR) ⟨0, by decide, rfl⟩) (by omega) (fun _ => (mR_07 hR)) h1) (by omega) (fun _ => (mR_07 (mR_07 hR))) ⟨0, by decide, rfl⟩) (by omega) (fun _ => (mR_07 (mR_07 (mR_07 hR)))) h2) (by omega) (fun _ => (mR_07 (mR_07 (mR_07 (mR_07 hR))))) ⟨0, by decide, rfl⟩) (by omega) (fun _ => (mR_07 (mR_07 (mR_07 (mR_07 (mR_07 hR)))))) h2) (by omega) (fun _ => (mR_07 (mR_07 (mR_07 (mR_07 (mR_07 (mR_07 hR))))))) ⟨0, by decide, rfl⟩)) (jG_v mL_M_237 mI_M_reaches mS_M_reaches mZ_M mC_M_reaches) rfl rfl rfl dd_M_reaches ⟨Nat.le_of_ble_eq_true rfl, Nat.le_of_ble_eq_true rfl⟩ 0 rfl rfl rfl rfl (Nat.le_of_ble_eq_true rfl) dM_askFar_110 ?_
                refine jq_if_eqB (pc := 113) hF 121 dM_askFar_113 rfl (fun h113 => ?_) (fun h113 => ?_)
                · refine jq_bipush (pc := 121) hF dM_askFar_121 bi_7 ?_
                  exact jq_at (hk 123 _ dM_askFar_123) (congrArg (wM a cI cZ) (by simp [mAskX, mStp, h9, h23, h38, h53, h68, h83, h98, h113])) rfl rfl (congrArg (fun z => [Value.int z]) (by simp [mAskX, mStp, h9, h23, h38, h53, h68, h83, h98, h113]))
                · refine jq_bipush (pc := 116) hF dM_askFar_116 bi_8 ?_
                  refine jq_goto (pc := 118) hF 123 dM_askFar_118 rfl ?_
                  exact jq_at (hk 123 _ dM_askFar_123) (congrArg (wM a cI cZ) (by simp [mAskX, mStp, h9, h23, h38, h53, h68, h83, h98, h113])) rfl rfl (congrArg (fun z => [Value.int z]) (by simp [mAskX, mStp, h9, h23, h38, h53, h68, h83, h98, h113]))
              · refine jq_bipush (pc := 101) hF dM_askFar_101 bi_6 ?_
                exact jq_at (hk 103 _ dM_askFar_103) (congrArg (wM a cI cZ) (by simp [mAskX, mStp, h9, h23, h38, h53, h68, h83, h98])) rfl rfl (congrArg (fun z => [Value.int z]) (by simp [mAskX, mStp, h9, h23, h38, h53, h68, h83, h98]))
            · refine jq_iconst (pc := 86) hF dM_askFar_86 ic_5 ?_
              exact jq_at (hk 87 _ dM_askFar_87) (congrArg (wM a cI cZ) (by simp [mAskX, mStp, h9, h23, h38, h53, h68, h83])) rfl rfl (congrArg (fun z => [Value.int z]) (by simp [mAskX, mStp, h9, h23, h38, h53, h68, h83]))
          · refine jq_iconst (pc := 71) hF dM_askFar_71 ic_4 ?_
            exact jq_at (hk 72 _ dM_askFar_72) (congrArg (wM a cI cZ) (by simp [mAskX, mStp, h9, h23, h38, h53, h68])) rfl rfl (congrArg (fun z => [Value.int z]) (by simp [mAskX, mStp, h9, h23, h38, h53, h68]))
        · refine jq_iconst (pc := 56) hF dM_askFar_56 ic_3 ?_
          exact jq_at (hk 57 _ dM_askFar_57) (congrArg (wM a cI cZ) (by simp [mAskX, mStp, h9, h23, h38, h53])) rfl rfl (congrArg (fun z => [Value.int z]) (by simp [mAskX, mStp, h9, h23, h38, h53]))
      · refine jq_iconst (pc := 41) hF dM_askFar_41 ic_2 ?_
        exact jq_at (hk 42 _ dM_askFar_42) (congrArg (wM a cI cZ) (by simp [mAskX, mStp, h9, h23, h38])) rfl rfl (congrArg (fun z => [Value.int z]) (by simp [mAskX, mStp, h9, h23, h38]))
    · refine jq_iconst (pc := 26) hF dM_askFar_26 ic_1 ?_
      exact jq_at (hk 27 _ dM_askFar_27) (congrArg (wM a cI cZ) (by simp [mAskX, mStp, h9, h23])) rfl rfl (congrArg (fun z => [Value.int z]) (by simp [mAskX, mStp, h9, h23]))
  · refine jq_iconst (pc := 12) hF dM_askFar_12 ic_0 ?_
    exact jq_at (hk 13 _ dM_askFar_13) (congrArg (wM a cI cZ) (by simp [mAskX, mStp, h9])) rfl rfl (congrArg (fun z => [Value.int z]) (by simp [mAskX, mStp, h9]))
set_option maxHeartbeats 4000000 in
set_option maxRecDepth 100000 in
theorem mM_ask (l : Launch) (D : va_G) (a : Nat → Nat) (cI cZ : ClassId) (τ : jS) (f : Int32) (t : Int32) (v : Int32) (hI : mInv τ) : jI l yM_ask w_M_ask (rmD 9) D (jTys cI cZ) [.ref (a 0), .int (f), .int (t), .int (v)] (wM a cI cZ τ) (wM a cI cZ (if mAskB τ f t = true then mAskSt τ (f).toNatClampNeg (t).toNatClampNeg v else τ)) (if mAskB τ f t = true then (mAskF τ (f).toNatClampNeg (t).toNatClampNeg).2 else -1) := by
  refine jI_of (ws' := jG) rfl (by decide) rfl (Nat.le_of_ble_eq_true rfl) ?_
  intro X hF hk
  show jJ l D (rmD 9) 6 X (wM a cI cZ τ) 0 [(0, .ref (a 0)), (1, .int (f)), (2, .int (t)), (3, .int (v))] []
  refine jq_aload_n (pc := 0) hF 0 dM_ask_0 rfl ?_
  refine jq_iload_n (pc := 1) hF 1 dM_ask_1 rfl ?_
  refine jq_cVI (pc := 2) hF (As := [.int (f)]) (rest := []) (mM_isHost l D a cI cZ τ (f) ) (jG_v mL_M_220 mI_M_isHost mS_M_isHost mZ_M mC_M_isHost) rfl rfl rfl dd_M_isHost ⟨Nat.le_of_ble_eq_true rfl, Nat.le_of_ble_eq_true rfl⟩ 0 rfl rfl rfl rfl (Nat.le_of_ble_eq_true rfl) dM_ask_2 ?_
  refine jq_if_eqB (pc := 5) hF 16 dM_ask_5 rfl (fun h5 => ?_) (fun h5 => ?_)
  · refine jq_iconst (pc := 16) hF dM_ask_16 ic_m1 ?_
    exact jq_at (hk 17 _ dM_ask_17) (congrArg (wM a cI cZ) (by exact if_neg (by simp [mAskB, h5]))) rfl rfl (congrArg (fun z => [Value.int z]) (by exact if_neg (by simp [mAskB, h5])))
  · refine jq_aload_n (pc := 8) hF 0 dM_ask_8 rfl ?_
    refine jq_iload_n (pc := 9) hF 2 dM_ask_9 rfl ?_
    refine jq_cVI (pc := 10) hF (As := [.int (t)]) (rest := []) (mM_isHost l D a cI cZ τ (t) ) (jG_v mL_M_220 mI_M_isHost mS_M_isHost mZ_M mC_M_isHost) rfl rfl rfl dd_M_isHost ⟨Nat.le_of_ble_eq_true rfl, Nat.le_of_ble_eq_true rfl⟩ 0 rfl rfl rfl rfl (Nat.le_of_ble_eq_true rfl) dM_ask_10 ?_
    refine jq_if_neB (pc := 13) hF 18 dM_ask_13 rfl (fun h13 => ?_) (fun h13 => ?_)
    · obtain ⟨k, rfl, hkk⟩ := mHost_at hI h5
      obtain ⟨j, rfl, hjj⟩ := mHost_at hI h13
      have ck : (nI k).toNatClampNeg = k := nI_clamp (by omega)
      have cj : (nI j).toNatClampNeg = j := nI_clamp (by omega)
      have g0 : mInv (sU τ 0 11 (nI 0)) := hI.u0 (by decide) (by decide) (by decide) (by decide)
      refine jq_aload_n (pc := 18) hF 0 dM_ask_18 rfl ?_
      refine Mg_M_53 (pc := 19) hF dM_ask_19 ?_
      refine jq_iload_n (pc := 22) hF 1 dM_ask_22 rfl ?_
      refine Ml_15 (pc := 23) hF (by omega) dM_ask_23 ?_
      refine jq_aload_n (pc := 24) hF 0 dM_ask_24 rfl ?_
      refine Mg_M_53 (pc := 25) hF dM_ask_25 ?_
      refine jq_iload_n (pc := 28) hF 2 dM_ask_28 rfl ?_
      refine Ml_15 (pc := 29) hF (by omega) dM_ask_29 ?_
      have j38 : jJ l D (rmD 9) 6 X (wM a cI cZ τ) 38 [(0, .ref (a 0)), (1, .int (nI k)), (2, .int (nI j)), (3, .int (v))] [.int (bI (!decide (¬ (τ 15 (k) = τ 15 (j)))))] := by
        refine jq_istore (pc := 38) hF [(4, .int (bI (!decide (¬ (τ 15 (k) = τ 15 (j)))))), (0, .ref (a 0)), (1, .int (nI k)), (2, .int (nI j)), (3, .int (v))] dM_ask_38 (Nat.le_of_ble_eq_true rfl) rfl ?_
        refine jq_iload (pc := 40) hF 0 dM_ask_40 rfl ?_
        refine jq_if_neB (pc := 42) hF 54 dM_ask_42 rfl (fun h42 => ?_) (fun h42 => ?_)
        · have hB : mAskB τ (nI k) (nI j) = true := by
            have hR : mDir τ k j = (!decide (¬ (τ 15 (k) = τ 15 (j)))) := rfl
            unfold mAskB
            rw [ck, cj, hR, h5, h13, h42]
            rfl
          refine jq_aload_n (pc := 54) hF 1 dM_ask_54 rfl ?_
          refine jq_iconst (pc := 55) hF dM_ask_55 ic_0 ?_
          refine Mp_M_217 (pc := 56) hF dM_ask_56 ?_
          refine jq_iload (pc := 59) hF 0 dM_ask_59 rfl ?_
          refine jq_if_eqB (pc := 61) hF 73 dM_ask_61 rfl (fun h61 => ?_) (fun h61 => ?_)
          · exact absurd (h61.symm.trans h42) (by decide)
          · refine jq_aload_n (pc := 64) hF 1 dM_ask_64 rfl ?_
            refine jq_iload_n (pc := 65) hF 2 dM_ask_65 rfl ?_
            refine jq_iload_n (pc := 66) hF 3 dM_ask_66 rfl ?_
            refine jq_cVI (pc := 67) hF (As := [.int (nI k), .int (nI j)]) (rest := []) (mM_askNear l D a cI cZ (sU τ 0 11 (nI (0))) (k) (j) hkk hjj g0) (jG_v mL_M_227 mI_M_askNear mS_M_askNear mZ_M mC_M_askNear) rfl rfl rfl dd_M_askNear ⟨Nat.le_of_ble_eq_true rfl, Nat.le_of_ble_eq_true rfl⟩ 0 rfl rfl rfl rfl (Nat.le_of_ble_eq_true rfl) dM_ask_67 ?_
            refine jq_goto (pc := 70) hF 91 dM_ask_70 rfl ?_
            have eF : mAskF τ k j = mAskN (sU τ 0 11 (nI 0)) k j := if_pos h61
            refine jq_istore (pc := 91) hF [(5, .int ((mAskN (sU τ 0 11 (nI (0))) (k) (j)).2)), (4, .int (bI (!decide (¬ (τ 15 (k) = τ 15 (j)))))), (0, .ref (a 0)), (1, .int (nI k)), (2, .int (nI j)), (3, .int (v))] dM_ask_91 (Nat.le_of_ble_eq_true rfl) rfl ?_
            refine jq_iload (pc := 93) hF 0 dM_ask_93 rfl ?_
            refine jq_iload (pc := 95) hF 1 dM_ask_95 rfl ?_
            have j106 : jJ l D (rmD 9) 6 X (wM a cI cZ (mAskN (sU τ 0 11 (nI (0))) (k) (j)).1) 106 [(5, .int ((mAskN (sU τ 0 11 (nI (0))) (k) (j)).2)), (4, .int (bI (!decide (¬ (τ 15 (k) = τ 15 (j)))))), (0, .ref (a 0)), (1, .int (nI k)), (2, .int (nI j)), (3, .int (v))] [.int (nI (if (!decide (¬ (τ 15 (k) = τ 15 (j)))) = false then 8 else 4)), .int ((mAskN (sU τ 0 11 (nI (0))) (k) (j)).2)] := by
              refine jq_icmp_ne (pc := 106) hF 119 dM_ask_106 rfl (fun h106 => ?_) (fun h106 => ?_)
              · refine jq_iload (pc := 119) hF 0 dM_ask_119 rfl ?_
                exact jq_at (hk 121 _ dM_ask_121) (congrArg (wM a cI cZ) (by rw [if_pos hB, ck, cj]; unfold mAskSt; rw [eF]; exact if_pos h106)) rfl rfl (congrArg (fun z => [Value.int z]) (by first | (rw [if_pos hB, ck, cj, eF]; done) | (rw [if_pos hB, ck, cj, eF]; rfl)))
              · refine jq_aload_n (pc := 109) hF 2 dM_ask_109 rfl ?_
                refine jq_bipush (pc := 110) hF dM_ask_110 bi_31 ?_
                refine jq_iload_n (pc := 112) hF 5 dM_ask_112 rfl ?_
                refine jq_imul (pc := 113) hF dM_ask_113 ?_
                refine jq_iload_n (pc := 114) hF 4 dM_ask_114 rfl ?_
                refine jq_iadd (pc := 115) hF dM_ask_115 ?_
                refine Mp_M_234 (pc := 116) hF dM_ask_116 ?_
                refine jq_iload (pc := 119) hF 0 dM_ask_119 rfl ?_
                exact jq_at (hk 121 _ dM_ask_121) (congrArg (wM a cI cZ) (by rw [if_pos hB, ck, cj]; unfold mAskSt; rw [eF]; exact if_neg (fun e => e h106))) rfl rfl (congrArg (fun z => [Value.int z]) (by first | (rw [if_pos hB, ck, cj, eF]; done) | (rw [if_pos hB, ck, cj, eF]; rfl)))
            refine jq_if_eqB (pc := 97) hF 104 dM_ask_97 rfl (fun h97 => ?_) (fun h97 => ?_)
            · refine jq_bipush (pc := 104) hF dM_ask_104 bi_8 ?_
              exact jq_at j106 rfl rfl rfl (by rw [if_pos h97])
            · refine jq_iconst (pc := 100) hF dM_ask_100 ic_4 ?_
              refine jq_goto (pc := 101) hF 106 dM_ask_101 rfl ?_
              exact jq_at j106 rfl rfl rfl (by rw [if_neg (show ¬ ((!decide (¬ (τ 15 (k) = τ 15 (j)))) = false) by rw [h97]; decide)])
        · refine jq_aload_n (pc := 45) hF 1 dM_ask_45 rfl ?_
          refine Mg_M_56 (pc := 46) hF dM_ask_46 ?_
          refine jq_if_ge (pc := 49) hF 54 dM_ask_49 rfl (fun h49 => ?_) (fun h49 => ?_)
          · have hB : mAskB τ (nI k) (nI j) = true := by
              have hR : mDir τ k j = (!decide (¬ (τ 15 (k) = τ 15 (j)))) := rfl
              unfold mAskB
              rw [ck, cj, hR, h5, h13]
              simp [h49]
            refine jq_aload_n (pc := 54) hF 1 dM_ask_54 rfl ?_
            refine jq_iconst (pc := 55) hF dM_ask_55 ic_0 ?_
            refine Mp_M_217 (pc := 56) hF dM_ask_56 ?_
            refine jq_iload (pc := 59) hF 0 dM_ask_59 rfl ?_
            refine jq_if_eqB (pc := 61) hF 73 dM_ask_61 rfl (fun h61 => ?_) (fun h61 => ?_)
            · refine jq_aload_n (pc := 73) hF 1 dM_ask_73 rfl ?_
              refine jq_iload_n (pc := 74) hF 2 dM_ask_74 rfl ?_
              refine jq_iload_n (pc := 75) hF 3 dM_ask_75 rfl ?_
              refine jq_aload_n (pc := 76) hF 1 dM_ask_76 rfl ?_
              refine Mg_M_53 (pc := 77) hF dM_ask_77 ?_
              refine jq_iload_n (pc := 80) hF 2 dM_ask_80 rfl ?_
              refine Ml_15 (pc := 81) hF (by omega) dM_ask_81 ?_
              refine jq_aload_n (pc := 82) hF 1 dM_ask_82 rfl ?_
              refine Mg_M_53 (pc := 83) hF dM_ask_83 ?_
              refine jq_iload_n (pc := 86) hF 3 dM_ask_86 rfl ?_
              refine Ml_15 (pc := 87) hF (by omega) dM_ask_87 ?_
              refine jq_cVI (pc := 88) hF (As := [.int (nI k), .int (nI j), .int ((sU τ 0 11 (nI (0))) 15 (k)), .int ((sU τ 0 11 (nI (0))) 15 (j))]) (rest := []) (mM_askFar l D a cI cZ (sU τ 0 11 (nI (0))) (k) (j) ((sU τ 0 11 (nI (0))) 15 (k)) ((sU τ 0 11 (nI (0))) 15 (j)) hkk hjj (hI.sn hkk) (hI.sn hjj) (hI.rt.resolve_left (ne_neg h49)) g0) (jG_v mL_M_231 mI_M_askFar mS_M_askFar mZ_M mC_M_askFar) rfl rfl rfl dd_M_askFar ⟨Nat.le_of_ble_eq_true rfl, Nat.le_of_ble_eq_true rfl⟩ 0 rfl rfl rfl rfl (Nat.le_of_ble_eq_true rfl) dM_ask_88 ?_
              have eF : mAskF τ k j = mAskX (sU τ 0 11 (nI 0)) k j (τ 15 k) (τ 15 j) := if_neg (fun e => absurd (h61.symm.trans e) (by decide))
              refine jq_istore (pc := 91) hF [(5, .int ((mAskX (sU τ 0 11 (nI (0))) (k) (j) ((sU τ 0 11 (nI (0))) 15 (k)) ((sU τ 0 11 (nI (0))) 15 (j))).2)), (4, .int (bI (!decide (¬ (τ 15 (k) = τ 15 (j)))))), (0, .ref (a 0)), (1, .int (nI k)), (2, .int (nI j)), (3, .int (v))] dM_ask_91 (Nat.le_of_ble_eq_true rfl) rfl ?_
              refine jq_iload (pc := 93) hF 0 dM_ask_93 rfl ?_
              refine jq_iload (pc := 95) hF 1 dM_ask_95 rfl ?_
              have j106 : jJ l D (rmD 9) 6 X (wM a cI cZ (mAskX (sU τ 0 11 (nI (0))) (k) (j) ((sU τ 0 11 (nI (0))) 15 (k)) ((sU τ 0 11 (nI (0))) 15 (j))).1) 106 [(5, .int ((mAskX (sU τ 0 11 (nI (0))) (k) (j) ((sU τ 0 11 (nI (0))) 15 (k)) ((sU τ 0 11 (nI (0))) 15 (j))).2)), (4, .int (bI (!decide (¬ (τ 15 (k) = τ 15 (j)))))), (0, .ref (a 0)), (1, .int (nI k)), (2, .int (nI j)), (3, .int (v))] [.int (nI (if (!decide (¬ (τ 15 (k) = τ 15 (j)))) = false then 8 else 4)), .int ((mAskX (sU τ 0 11 (nI (0))) (k) (j) ((sU τ 0 11 (nI (0))) 15 (k)) ((sU τ 0 11 (nI (0))) 15 (j))).2)] := by
                refine jq_icmp_ne (pc := 106) hF 119 dM_ask_106 rfl (fun h106 => ?_) (fun h106 => ?_)
                · refine jq_iload (pc := 119) hF 0 dM_ask_119 rfl ?_
                  exact jq_at (hk 121 _ dM_ask_121) (congrArg (wM a cI cZ) (by rw [if_pos hB, ck, cj]; unfold mAskSt; rw [eF]; exact if_pos h106)) rfl rfl (congrArg (fun z => [Value.int z]) (by first | (rw [if_pos hB, ck, cj, eF]; done) | (rw [if_pos hB, ck, cj, eF]; rfl)))
                · refine jq_aload_n (pc := 109) hF 2 dM_ask_109 rfl ?_
                  refine jq_bipush (pc := 110) hF dM_ask_110 bi_31 ?_
                  refine jq_iload_n (pc := 112) hF 5 dM_ask_112 rfl ?_
                  refine jq_imul (pc := 113) hF dM_ask_113 ?_
                  refine jq_iload_n (pc := 114) hF 4 dM_ask_114 rfl ?_
                  refine jq_iadd (pc := 115) hF dM_ask_115 ?_
                  refine Mp_M_234 (pc := 116) hF dM_ask_116 ?_
                  refine jq_iload (pc := 119) hF 0 dM_ask_119 rfl ?_
                  exact jq_at (hk 121 _ dM_ask_121) (congrArg (wM a cI cZ) (by rw [if_pos hB, ck, cj]; unfold mAskSt; rw [eF]; exact if_neg (fun e => e h106))) rfl rfl (congrArg (fun z => [Value.int z]) (by first | (rw [if_pos hB, ck, cj, eF]; done) | (rw [if_pos hB, ck, cj, eF]; rfl)))
              refine jq_if_eqB (pc := 97) hF 104 dM_ask_97 rfl (fun h97 => ?_) (fun h97 => ?_)
              · refine jq_bipush (pc := 104) hF dM_ask_104 bi_8 ?_
                exact jq_at j106 rfl rfl rfl (by rw [if_pos h97])
              · refine jq_iconst (pc := 100) hF dM_ask_100 ic_4 ?_
                refine jq_goto (pc := 101) hF 106 dM_ask_101 rfl ?_
                exact jq_at j106 rfl rfl rfl (by rw [if_neg (show ¬ ((!decide (¬ (τ 15 (k) = τ 15 (j)))) = false) by rw [h97]; decide)])
            · refine jq_aload_n (pc := 64) hF 1 dM_ask_64 rfl ?_
              refine jq_iload_n (pc := 65) hF 2 dM_ask_65 rfl ?_
              refine jq_iload_n (pc := 66) hF 3 dM_ask_66 rfl ?_
              refine jq_cVI (pc := 67) hF (As := [.int (nI k), .int (nI j)]) (rest := []) (mM_askNear l D a cI cZ (sU τ 0 11 (nI (0))) (k) (j) hkk hjj g0) (jG_v mL_M_227 mI_M_askNear mS_M_askNear mZ_M mC_M_askNear) rfl rfl rfl dd_M_askNear ⟨Nat.le_of_ble_eq_true rfl, Nat.le_of_ble_eq_true rfl⟩ 0 rfl rfl rfl rfl (Nat.le_of_ble_eq_true rfl) dM_ask_67 ?_
              refine jq_goto (pc := 70) hF 91 dM_ask_70 rfl ?_
              have eF : mAskF τ k j = mAskN (sU τ 0 11 (nI 0)) k j := if_pos h61
              refine jq_istore (pc := 91) hF [(5, .int ((mAskN (sU τ 0 11 (nI (0))) (k) (j)).2)), (4, .int (bI (!decide (¬ (τ 15 (k) = τ 15 (j)))))), (0, .ref (a 0)), (1, .int (nI k)), (2, .int (nI j)), (3, .int (v))] dM_ask_91 (Nat.le_of_ble_eq_true rfl) rfl ?_
              refine jq_iload (pc := 93) hF 0 dM_ask_93 rfl ?_
              refine jq_iload (pc := 95) hF 1 dM_ask_95 rfl ?_
              have j106 : jJ l D (rmD 9) 6 X (wM a cI cZ (mAskN (sU τ 0 11 (nI (0))) (k) (j)).1) 106 [(5, .int ((mAskN (sU τ 0 11 (nI (0))) (k) (j)).2)), (4, .int (bI (!decide (¬ (τ 15 (k) = τ 15 (j)))))), (0, .ref (a 0)), (1, .int (nI k)), (2, .int (nI j)), (3, .int (v))] [.int (nI (if (!decide (¬ (τ 15 (k) = τ 15 (j)))) = false then 8 else 4)), .int ((mAskN (sU τ 0 11 (nI (0))) (k) (j)).2)] := by
                refine jq_icmp_ne (pc := 106) hF 119 dM_ask_106 rfl (fun h106 => ?_) (fun h106 => ?_)
                · refine jq_iload (pc := 119) hF 0 dM_ask_119 rfl ?_
                  exact jq_at (hk 121 _ dM_ask_121) (congrArg (wM a cI cZ) (by rw [if_pos hB, ck, cj]; unfold mAskSt; rw [eF]; exact if_pos h106)) rfl rfl (congrArg (fun z => [Value.int z]) (by first | (rw [if_pos hB, ck, cj, eF]; done) | (rw [if_pos hB, ck, cj, eF]; rfl)))
                · refine jq_aload_n (pc := 109) hF 2 dM_ask_109 rfl ?_
                  refine jq_bipush (pc := 110) hF dM_ask_110 bi_31 ?_
                  refine jq_iload_n (pc := 112) hF 5 dM_ask_112 rfl ?_
                  refine jq_imul (pc := 113) hF dM_ask_113 ?_
                  refine jq_iload_n (pc := 114) hF 4 dM_ask_114 rfl ?_
                  refine jq_iadd (pc := 115) hF dM_ask_115 ?_
                  refine Mp_M_234 (pc := 116) hF dM_ask_116 ?_
                  refine jq_iload (pc := 119) hF 0 dM_ask_119 rfl ?_
                  exact jq_at (hk 121 _ dM_ask_121) (congrArg (wM a cI cZ) (by rw [if_pos hB, ck, cj]; unfold mAskSt; rw [eF]; exact if_neg (fun e => e h106))) rfl rfl (congrArg (fun z => [Value.int z]) (by first | (rw [if_pos hB, ck, cj, eF]; done) | (rw [if_pos hB, ck, cj, eF]; rfl)))
              refine jq_if_eqB (pc := 97) hF 104 dM_ask_97 rfl (fun h97 => ?_) (fun h97 => ?_)
              · refine jq_bipush (pc := 104) hF dM_ask_104 bi_8 ?_
                exact jq_at j106 rfl rfl rfl (by rw [if_pos h97])
              · refine jq_iconst (pc := 100) hF dM_ask_100 ic_4 ?_
                refine jq_goto (pc := 101) hF 106 dM_ask_101 rfl ?_
                exact jq_at j106 rfl rfl rfl (by rw [if_neg (show ¬ ((!decide (¬ (τ 15 (k) = τ 15 (j)))) = false) by rw [h97]; decide)])
          · refine jq_iconst (pc := 52) hF dM_ask_52 ic_m1 ?_
            exact jq_at (hk 53 _ dM_ask_53) (congrArg (wM a cI cZ) (by exact if_neg (by have hR : mDir τ k j = false := h42; simp [mAskB, ck, cj, hR, h49]))) rfl rfl (congrArg (fun z => [Value.int z]) (by exact if_neg (by have hR : mDir τ k j = false := h42; simp [mAskB, ck, cj, hR, h49])))
      refine jq_icmp_ne (pc := 30) hF 37 dM_ask_30 rfl (fun h30 => ?_) (fun h30 => ?_)
      · refine jq_iconst (pc := 37) hF dM_ask_37 ic_0 ?_
        exact jq_at j38 rfl rfl rfl (by rw [decide_eq_true h30]; rfl)
      · refine jq_iconst (pc := 33) hF dM_ask_33 ic_1 ?_
        refine jq_goto (pc := 34) hF 38 dM_ask_34 rfl ?_
        exact jq_at j38 rfl rfl rfl (by rw [decide_eq_false (fun e => e h30)]; rfl)
    · refine jq_iconst (pc := 16) hF dM_ask_16 ic_m1 ?_
      exact jq_at (hk 17 _ dM_ask_17) (congrArg (wM a cI cZ) (by exact if_neg (by simp [mAskB, h5, h13]))) rfl rfl (congrArg (fun z => [Value.int z]) (by exact if_neg (by simp [mAskB, h5, h13])))
