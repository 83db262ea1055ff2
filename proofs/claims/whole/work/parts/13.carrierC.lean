/-! the carrier -/
def cGoR (σ : jS) (g tag : Int32) : jS := if g = nI 6 ∨ (¬ g = -1 ∧ tag = -1) then sU σ 5 4 (σ 5 4 ||| (nI 1 <<< (g &&& 31))) else σ
def cGoA (σ : jS) (far tag : Int32) : jS :=
  if far = -1 then σ else if nI 61 ≤ σ 5 0 then σ else sU (sU (sU σ 33 (σ 5 0).toNatClampNeg far) 34 (σ 5 0).toNatClampNeg tag) 5 0 (σ 5 0 + nI 1)
def cGoOut (σ : jS) (p : Nat) (tag : Int32) : jS :=
  if σ 5 3 < nI 60 then cGoA (cGoR (sU σ 5 3 (σ 5 3 + nI 1)) (σ 14 p) tag) (σ 13 p) tag else σ
def cKnown (σ : jS) (p nw : Nat) : Int32 := if ¬ σ 5 2 = -1 then cPort σ (p / 4) nw (σ 5 2).toNatClampNeg else -1
def cFwd1 (p nw : Nat) (kn : Int32) (k : Nat) (σ : jS) : jS :=
  if (!decide (4 * (p / 4) + k = p) && (decide (kn = -1) || decide (kn = nI k))) = true then
    (if ¬ σ 27 (4 * (p / 4) + k) = nI 3 then σ else if cIsMember σ (4 * (p / 4) + k) (nI nw) = true then cGoOut σ (4 * (p / 4) + k) (cTagOut σ (4 * (p / 4) + k) (nI nw)) else σ)
  else σ
def cForward (σ : jS) (p nw : Nat) : jS := forN (cFwd1 p nw (cKnown σ p nw)) σ 4
def cLearnS (σ : jS) (p : Nat) (tag : Int32) : jS := cLearn σ p (cInside σ p tag).toNatClampNeg (σ 5 1).toNatClampNeg (σ 3 2)
def cHandle (σ : jS) (p : Nat) (tag : Int32) : jS :=
  if σ 27 p < nI 2 then σ
  else if ¬ cInside σ p tag = -1 then
    (if ¬ cLearnS σ p tag 27 p = nI 3 then cLearnS σ p tag else cForward (cLearnS σ p tag) p (cInside σ p tag).toNatClampNeg)
  else σ
/-- the arrivals from the i-th on, f at the most -/
def cRun (i : Nat) : Nat → jS → jS
  | 0, σ => σ
  | f + 1, σ => if σ 5 0 ≤ nI i then σ else cRun (i + 1) f (cHandle σ (σ 33 i).toNatClampNeg (σ 34 i))
def cStart (σ : jS) (from_ to place tag : Int32) : jS :=
  sU (sU (sU (sU (sU (sU (sU σ 5 1 from_) 5 2 to) 5 3 (nI 0)) 5 4 (nI 0)) 33 0 place) 34 0 tag) 5 0 (nI 1)
def cCount (σ : jS) : jS := sU σ 5 5 (σ 5 5 + σ 5 3)
def cCarry (σ : jS) (from_ to place tag : Int32) : jS := cCount (cRun 0 61 (cStart σ from_ to place tag))
def cOkS (σ : jS) : Prop := cInv σ ∧ okP 62 (σ 5 0) ∧ okP 7 (σ 5 1) ∧ okQ 7 (σ 5 2)
theorem cnt_in {x : Int32} (h : okP 62 x) (h2 : ¬ nI 61 ≤ x) : vp_in x 61 := by
  obtain ⟨k, hk, rfl⟩ := h
  have : ¬ 61 ≤ k := fun e => h2 (nI_le e (by omega))
  exact vp_in_nI (by omega) (by decide)
theorem cGoR_fr (σ : jS) (g t : Int32) : fr [5] σ (cGoR σ g t) := fr.ite (fr.rf.u (by decide) _ _) fr.rf
theorem cGoR_5 (σ : jS) (g t : Int32) {j : Nat} (hj : j ≠ 4) : cGoR σ g t 5 j = σ 5 j := by
  unfold cGoR
  by_cases h : g = nI 6 ∨ (¬ g = -1 ∧ t = -1)
  · rw [if_pos h, sU_eq, if_neg hj]
  · rw [if_neg h]
theorem cInv.arr {σ : jS} (hI : cInv σ) {i : Nat} {x t v : Int32} (hx : okP 24 x) (ht : okQ 4 t) (j : Nat) : cInv (sU (sU (sU σ 33 i x) 34 i t) 5 j v) := by
  have e33 : ∀ q, sU (sU (sU σ 33 i x) 34 i t) 5 j v 33 q = if q = i then x else σ 33 q := fun q => sU_eq σ 33 i x q
  have e34 : ∀ q, sU (sU (sU σ 33 i x) 34 i t) 5 j v 34 q = if q = i then t else σ 34 q := fun q => sU_eq (sU σ 33 i x) 34 i t q
  refine ⟨hI.1, hI.2.1, hI.2.2.1, hI.2.2.2.1, hI.2.2.2.2.1, hI.2.2.2.2.2.1, hI.2.2.2.2.2.2.1, hI.2.2.2.2.2.2.2.1, hI.2.2.2.2.2.2.2.2.1, hI.2.2.2.2.2.2.2.2.2.1, hI.2.2.2.2.2.2.2.2.2.2.1, fun q hq => ?_, fun q hq => ?_, hI.2.2.2.2.2.2.2.2.2.2.2.2.2⟩
  · rw [e33]
    by_cases e : q = i
    · rw [if_pos e]; exact hx
    · rw [if_neg e]; exact hI.ap hq
  · rw [e34]
    by_cases e : q = i
    · rw [if_pos e]; exact ht
    · rw [if_neg e]; exact hI.tag hq
theorem cGoA_ok {σ : jS} (h : cOkS σ) {far tag : Int32} (hf : okQ 24 far) (ht : okQ 4 tag) : cOkS (cGoA σ far tag) := by
  unfold cGoA
  by_cases h1 : far = -1
  · rw [if_pos h1]; exact h
  · rw [if_neg h1]
    by_cases h2 : nI 61 ≤ σ 5 0
    · rw [if_pos h2]; exact h
    · rw [if_neg h2]
      refine ⟨h.1.arr (hf.resolve_left h1) ht 0, ?_, ?_, ?_⟩
      · obtain ⟨k, hk, e⟩ := h.2.1
        rw [sU_eq, if_pos rfl, e, nI_add]
        have : ¬ 61 ≤ k := fun q => h2 (by rw [e]; exact nI_le q (by omega))
        exact ⟨k + 1, by omega, rfl⟩
      · rw [sU_eq, if_neg (by decide)]; exact h.2.2.1
      · rw [sU_eq, if_neg (by decide)]; exact h.2.2.2
theorem cOkS.u5 {σ : jS} (h : cOkS σ) {j : Nat} {v : Int32} (hj : 2 < j) : cOkS (sU σ 5 j v) := by
  refine ⟨h.1.u (by decide), ?_, ?_, ?_⟩
  · rw [sU_eq, if_neg (by omega)]; exact h.2.1
  · rw [sU_eq, if_neg (by omega)]; exact h.2.2.1
  · rw [sU_eq, if_neg (by omega)]; exact h.2.2.2
theorem cGoR_ok {σ : jS} (h : cOkS σ) (g t : Int32) : cOkS (cGoR σ g t) := by
  unfold cGoR
  by_cases h1 : g = nI 6 ∨ (¬ g = -1 ∧ t = -1)
  · rw [if_pos h1]; exact h.u5 (by decide)
  · rw [if_neg h1]; exact h
theorem cGoOut_ok {σ : jS} (h : cOkS σ) {p : Nat} (hp : p < 24) {tag : Int32} (ht : okQ 4 tag) : cOkS (cGoOut σ p tag) := by
  unfold cGoOut
  by_cases h1 : σ 5 3 < nI 60
  · rw [if_pos h1]; exact cGoA_ok (cGoR_ok (h.u5 (by decide)) _ _) (h.1.far hp) ht
  · rw [if_neg h1]; exact h
theorem cTagOut_ok {σ : jS} {p : Nat} {nw : Int32} (h : okP 4 nw) : okQ 4 (cTagOut σ p nw) := by
  unfold cTagOut
  by_cases h1 : σ 15 p = nw
  · rw [if_pos h1]; exact Or.inl rfl
  · rw [if_neg h1]; exact Or.inr h
theorem cFwd1_ok {σ : jS} (h : cOkS σ) {p nw k : Nat} (kn : Int32) (hp : p < 24) (hn : nw < 4) (hk : k < 4) : cOkS (cFwd1 p nw kn k σ) := by
  have ho : 4 * (p / 4) + k < 24 := by omega
  unfold cFwd1
  split
  · split
    · exact h
    · split
      · exact cGoOut_ok h ho (cTagOut_ok ⟨nw, hn, rfl⟩)
      · exact h
  · exact h
theorem cFwdN_ok {σ : jS} (h : cOkS σ) {p nw : Nat} (kn : Int32) (hp : p < 24) (hn : nw < 4) : ∀ k, k ≤ 4 → cOkS (forN (cFwd1 p nw kn) σ k) := by
  intro k
  induction k with
  | zero => exact fun _ => h
  | succ k ih => exact fun hk => cFwd1_ok (ih (by omega)) kn hp hn (by omega)
theorem cInside_ok {σ : jS} (hI : cInv σ) {p : Nat} (hp : p < 24) {tag : Int32} (ht : okQ 4 tag) : okQ 4 (cInside σ p tag) := by
  have hv : okP 4 (if ¬ tag = -1 then tag else σ 15 p) := by
    by_cases h : ¬ tag = -1
    · rw [if_pos h]; exact ht.resolve_left h
    · rw [if_neg h]; exact hI.unt hp
  unfold cInside
  by_cases h1 : ¬ tag = -1 ∧ σ 17 p = 0
  · rw [if_pos h1]; exact Or.inl rfl
  · rw [if_neg h1]
    by_cases h2 : cIsMember σ p (if ¬ tag = -1 then tag else σ 15 p) = true
    · rw [if_pos h2]; exact Or.inr hv
    · rw [if_neg h2]; exact Or.inl rfl
theorem cLearn_fr (σ : jS) (p nw ad : Nat) (t : Int32) : fr [31, 32] σ (cLearn σ p nw ad t) := (fr.rf.u (by decide) _ _).u (by decide) _ _
theorem cOkS.of_fr {ks : List Nat} {σ σ' : jS} (h : cOkS σ) (hf : fr ks σ σ') (hk : ∀ k ∈ [1, 7, 10, 11, 12, 13, 15, 24, 33, 34], k ∉ ks) (h5 : 5 ∉ ks) : cOkS σ' := by
  refine ⟨h.1.of_fr hf hk, ?_, ?_, ?_⟩
  · rw [hf 5 h5]; exact h.2.1
  · rw [hf 5 h5]; exact h.2.2.1
  · rw [hf 5 h5]; exact h.2.2.2
theorem cLearnS_ok {σ : jS} (h : cOkS σ) (p : Nat) (tag : Int32) : cOkS (cLearnS σ p tag) := h.of_fr (cLearn_fr _ _ _ _ _) (by decide) (by decide)
theorem cHandle_ok {σ : jS} (h : cOkS σ) {p : Nat} (hp : p < 24) {tag : Int32} (ht : okQ 4 tag) : cOkS (cHandle σ p tag) := by
  unfold cHandle
  split
  · exact h
  · split
    · rename_i h1
      split
      · exact cLearnS_ok h p tag
      · exact cFwdN_ok (cLearnS_ok h p tag) _ hp ((cInside_ok h.1 hp ht).cl h1 (by decide)).1 4 (Nat.le_refl _)
    · exact h
theorem loop_st {α : Type} {N : Nat} {P : Nat → α → Prop} (h : ∀ i, i ≤ N → (i < N → ∀ s, P (i + 1) s) → ∀ s, P i s) : ∀ i, i ≤ N → ∀ s, P i s := by
  have key : ∀ k i, i ≤ N → N - i = k → ∀ s, P i s := by
    intro k
    induction k with
    | zero => exact fun i hi hk => h i hi (fun hlt => absurd hlt (by omega))
    | succ k ih => exact fun i hi hk => h i hi (fun hlt => ih (i + 1) (by omega) (by omega))
  exact fun i hi => key (N - i) i hi rfl
theorem cRun_stop {i f : Nat} {σ : jS} (h : σ 5 0 ≤ nI i) : cRun i f σ = σ := by
  cases f with
  | zero => rfl
  | succ f => exact if_pos h
theorem cRun_go {i f : Nat} {σ : jS} (h : ¬ σ 5 0 ≤ nI i) : cRun i (f + 1) σ = cRun (i + 1) f (cHandle σ (σ 33 i).toNatClampNeg (σ 34 i)) := if_neg h
theorem cRun_ok : ∀ (f i : Nat) (σ : jS), i + f = 61 → cOkS σ → cOkS (cRun i f σ) := by
  intro f
  induction f with
  | zero => exact fun _ _ _ h => h
  | succ f ih =>
    intro i σ hi h
    by_cases h1 : σ 5 0 ≤ nI i
    · rw [cRun_stop h1]; exact h
    · rw [cRun_go h1]
      exact ih (i + 1) _ (by omega) (cHandle_ok h ((h.1.ap (i := i) (by omega)).cl (by decide)).1 (h.1.tag (by omega)))
theorem cStart_ok {σ : jS} (hI : cInv σ) {f t p g : Int32} (hf : okP 7 f) (ht : okQ 7 t) (hp : okP 24 p) (hg : okQ 4 g) : cOkS (cStart σ f t p g) := by
  have h4 : cInv (sU (sU (sU (sU σ 5 1 f) 5 2 t) 5 3 (nI 0)) 5 4 (nI 0)) := (((hI.u (by decide)).u (by decide)).u (by decide)).u (by decide)
  refine ⟨h4.arr hp hg 0, ?_, ?_, ?_⟩
  · exact ⟨1, by decide, rfl⟩
  · exact hf
  · exact ht
theorem cCarry_inv {σ : jS} (hI : cInv σ) {f t p g : Int32} (hf : okP 7 f) (ht : okQ 7 t) (hp : okP 24 p) (hg : okQ 4 g) : cInv (cCarry σ f t p g) := (cRun_ok 61 0 _ rfl (cStart_ok hI hf ht hp hg)).1.u (by decide)

set_option maxHeartbeats 4000000 in
set_option maxRecDepth 100000 in
theorem mK_goOut (l : Launch) (D : va_G) (a : Nat → Nat) (cI cZ : ClassId) (σ : jS) (p : Nat) (tag : Int32) (hp : p < 24) (hA : okP 62 (σ 5 0)) : jV l yK_goOut w_K_goOut (rmD 0) D (jTys cI cZ) [.ref (a 5), .int (nI p), .int (tag)] (wC a cI cZ σ) (wC a cI cZ (cGoOut σ p tag)) := by
  refine jV_of (ws' := jG) (by decide) rfl (Nat.le_of_ble_eq_true rfl) ?_
  intro X hF hk
  show jJ l D (rmD 0) 5 X (wC a cI cZ σ) 0 [(0, .ref (a 5)), (1, .int (nI p)), (2, .int (tag))] []
  refine jq_aload_n (pc := 0) hF 0 dK_goOut_0 rfl ?_
  refine Cg_K_62 (pc := 1) hF dK_goOut_1 ?_
  refine jq_bipush (pc := 4) hF dK_goOut_4 bi_60 ?_
  refine jq_icmp_lt (pc := 6) hF 10 dK_goOut_6 rfl (fun h6 => ?_) (fun h6 => ?_)
  · refine jq_aload_n (pc := 10) hF 0 dK_goOut_10 rfl ?_
    refine jq_dup (pc := 11) hF dK_goOut_11 rfl ?_
    refine Cg_K_62 (pc := 12) hF dK_goOut_12 ?_
    refine jq_iconst (pc := 15) hF dK_goOut_15 ic_1 ?_
    refine jq_iadd (pc := 16) hF dK_goOut_16 ?_
    refine Cp_K_62 (pc := 17) hF dK_goOut_17 ?_
    refine jq_aload_n (pc := 20) hF 0 dK_goOut_20 rfl ?_
    refine Cg_K_18 (pc := 21) hF dK_goOut_21 ?_
    refine Cg_K_106 (pc := 24) hF dK_goOut_24 ?_
    refine jq_iload_n (pc := 27) hF 1 dK_goOut_27 rfl ?_
    refine Cl_14 (pc := 28) hF (by omega) dK_goOut_28 ?_
    refine jq_istore_n (pc := 29) hF [(3, .int ((sU σ 5 3 ((σ 5 3) + (nI (1)))) 14 (p))), (0, .ref (a 5)), (1, .int (nI p)), (2, .int (tag))] dK_goOut_29 (Nat.le_of_ble_eq_true rfl) rfl ?_
    refine jq_aload_n (pc := 30) hF 1 dK_goOut_30 rfl ?_
    refine Cg_K_18 (pc := 31) hF dK_goOut_31 ?_
    refine Cg_K_109 (pc := 34) hF dK_goOut_34 ?_
    refine jq_iload_n (pc := 37) hF 2 dK_goOut_37 rfl ?_
    refine Cl_13 (pc := 38) hF (by omega) dK_goOut_38 ?_
    refine jq_istore (pc := 39) hF [(4, .int ((sU σ 5 3 ((σ 5 3) + (nI (1)))) 13 (p))), (3, .int ((sU σ 5 3 ((σ 5 3) + (nI (1)))) 14 (p))), (0, .ref (a 5)), (1, .int (nI p)), (2, .int (tag))] dK_goOut_39 (Nat.le_of_ble_eq_true rfl) rfl ?_
    have j69 : jJ l D (rmD 0) 5 X (wC a cI cZ (cGoR (sU σ 5 3 (σ 5 3 + nI 1)) (σ 14 p) tag)) 69 [(4, .int ((sU σ 5 3 ((σ 5 3) + (nI (1)))) 13 (p))), (3, .int ((sU σ 5 3 ((σ 5 3) + (nI (1)))) 14 (p))), (0, .ref (a 5)), (1, .int (nI p)), (2, .int (tag))] [] := by
      refine jq_iload (pc := 69) hF 0 dK_goOut_69 rfl ?_
      refine jq_iconst (pc := 71) hF dK_goOut_71 ic_m1 ?_
      refine jq_icmp_eq (pc := 72) hF 118 dK_goOut_72 rfl (fun h72 => ?_) (fun h72 => ?_)
      · exact jq_at (hk 118 _ dK_goOut_118) (congrArg (wC a cI cZ) (by first | exact (if_pos h6).trans (if_pos h72) | exact (if_pos h6).trans ((if_neg h72).trans (if_pos h84)) | exact (if_pos h6).trans ((if_neg h72).trans (if_neg h84)))) rfl rfl rfl
      · refine jq_aload_n (pc := 75) hF 2 dK_goOut_75 rfl ?_
        refine Cg_K_68 (pc := 76) hF dK_goOut_76 ?_
        refine jq_aload_n (pc := 79) hF 2 dK_goOut_79 rfl ?_
        refine Cg_K_9 (pc := 80) hF dK_goOut_80 ?_
        refine jq_alen (pc := 83) hF 33 0 rfl rfl dK_goOut_83 ?_
        refine jq_icmp_ge (pc := 84) hF 118 dK_goOut_84 rfl (fun h84 => ?_) (fun h84 => ?_)
        · exact jq_at (hk 118 _ dK_goOut_118) (congrArg (wC a cI cZ) (by first | exact (if_pos h6).trans (if_pos h72) | exact (if_pos h6).trans ((if_neg h72).trans (if_pos h84)) | exact (if_pos h6).trans ((if_neg h72).trans (if_neg h84)))) rfl rfl rfl
        · refine jq_aload_n (pc := 87) hF 2 dK_goOut_87 rfl ?_
          refine Cg_K_9 (pc := 88) hF dK_goOut_88 ?_
          refine jq_aload_n (pc := 91) hF 2 dK_goOut_91 rfl ?_
          refine Cg_K_68 (pc := 92) hF dK_goOut_92 ?_
          refine jq_iload (pc := 95) hF 0 dK_goOut_95 rfl ?_
          refine CS_33 (pc := 97) hF (cnt_in (by rw [cGoR_5 _ _ _ (by decide)]; exact hA) h84) dK_goOut_97 ?_
          refine jq_aload_n (pc := 98) hF 2 dK_goOut_98 rfl ?_
          refine Cg_K_15 (pc := 99) hF dK_goOut_99 ?_
          refine jq_aload_n (pc := 102) hF 2 dK_goOut_102 rfl ?_
          refine Cg_K_68 (pc := 103) hF dK_goOut_103 ?_
          refine jq_iload_n (pc := 106) hF 4 dK_goOut_106 rfl ?_
          refine CS_34 (pc := 107) hF (cnt_in (by show okP 62 (cGoR (sU σ 5 3 (σ 5 3 + nI 1)) (σ 14 p) tag 5 0); rw [cGoR_5 _ _ _ (by decide)]; exact hA) h84) dK_goOut_107 ?_
          refine jq_aload_n (pc := 108) hF 2 dK_goOut_108 rfl ?_
          refine jq_dup (pc := 109) hF dK_goOut_109 rfl ?_
          refine Cg_K_68 (pc := 110) hF dK_goOut_110 ?_
          refine jq_iconst (pc := 113) hF dK_goOut_113 ic_1 ?_
          refine jq_iadd (pc := 114) hF dK_goOut_114 ?_
          refine Cp_K_68 (pc := 115) hF dK_goOut_115 ?_
          exact jq_at (hk 118 _ dK_goOut_118) (congrArg (wC a cI cZ) (by first | exact (if_pos h6).trans (if_pos h72) | exact (if_pos h6).trans ((if_neg h72).trans (if_pos h84)) | exact (if_pos h6).trans ((if_neg h72).trans (if_neg h84)))) rfl rfl rfl
    refine jq_iload_n (pc := 41) hF 1 dK_goOut_41 rfl ?_
    refine jq_bipush (pc := 42) hF dK_goOut_42 bi_6 ?_
    refine jq_icmp_eq (pc := 44) hF 57 dK_goOut_44 rfl (fun h44 => ?_) (fun h44 => ?_)
    · refine jq_aload_n (pc := 57) hF 2 dK_goOut_57 rfl ?_
      refine jq_dup (pc := 58) hF dK_goOut_58 rfl ?_
      refine Cg_K_65 (pc := 59) hF dK_goOut_59 ?_
      refine jq_iconst (pc := 62) hF dK_goOut_62 ic_1 ?_
      refine jq_iload_n (pc := 63) hF 1 dK_goOut_63 rfl ?_
      refine jq_ishl (pc := 64) hF dK_goOut_64 ?_
      refine jq_ior (pc := 65) hF dK_goOut_65 ?_
      refine Cp_K_65 (pc := 66) hF dK_goOut_66 ?_
      exact jq_at j69 (congrArg (wC a cI cZ) (by first | exact if_pos (Or.inl h44) | exact if_pos (Or.inr ⟨h49, h54⟩) | (refine if_neg (fun e => ?_); rcases e with e | e; exact h44 e; first | exact e.1 h49 | exact h54 e.2))) rfl rfl rfl
    · refine jq_iload_n (pc := 47) hF 1 dK_goOut_47 rfl ?_
      refine jq_iconst (pc := 48) hF dK_goOut_48 ic_m1 ?_
      refine jq_icmp_eq (pc := 49) hF 69 dK_goOut_49 rfl (fun h49 => ?_) (fun h49 => ?_)
      · exact jq_at j69 (congrArg (wC a cI cZ) (by first | exact if_pos (Or.inl h44) | exact if_pos (Or.inr ⟨h49, h54⟩) | (refine if_neg (fun e => ?_); rcases e with e | e; exact h44 e; first | exact e.1 h49 | exact h54 e.2))) rfl rfl rfl
      · refine jq_iload_n (pc := 52) hF 4 dK_goOut_52 rfl ?_
        refine jq_iconst (pc := 53) hF dK_goOut_53 ic_m1 ?_
        refine jq_icmp_ne (pc := 54) hF 69 dK_goOut_54 rfl (fun h54 => ?_) (fun h54 => ?_)
        · exact jq_at j69 (congrArg (wC a cI cZ) (by first | exact if_pos (Or.inl h44) | exact if_pos (Or.inr ⟨h49, h54⟩) | (refine if_neg (fun e => ?_); rcases e with e | e; exact h44 e; first | exact e.1 h49 | exact h54 e.2))) rfl rfl rfl
        · refine jq_aload_n (pc := 57) hF 2 dK_goOut_57 rfl ?_
          refine jq_dup (pc := 58) hF dK_goOut_58 rfl ?_
          refine Cg_K_65 (pc := 59) hF dK_goOut_59 ?_
          refine jq_iconst (pc := 62) hF dK_goOut_62 ic_1 ?_
          refine jq_iload_n (pc := 63) hF 1 dK_goOut_63 rfl ?_
          refine jq_ishl (pc := 64) hF dK_goOut_64 ?_
          refine jq_ior (pc := 65) hF dK_goOut_65 ?_
          refine Cp_K_65 (pc := 66) hF dK_goOut_66 ?_
          exact jq_at j69 (congrArg (wC a cI cZ) (by first | exact if_pos (Or.inl h44) | exact if_pos (Or.inr ⟨h49, h54⟩) | (refine if_neg (fun e => ?_); rcases e with e | e; exact h44 e; first | exact e.1 h49 | exact h54 e.2))) rfl rfl rfl
  · exact jq_at (hk 9 _ dK_goOut_9) (congrArg (wC a cI cZ) (by exact if_neg h6)) rfl rfl rfl
set_option maxHeartbeats 4000000 in
set_option maxRecDepth 100000 in
theorem mK_forward (l : Launch) (D : va_G) (a : Nat → Nat) (cI cZ : ClassId) (σ : jS) (p : Nat) (nw : Nat) (hp : p < 24) (hn : nw < 4) (hS : cOkS σ) : jV l yK_forward w_K_forward (rmD 1) D (jTys cI cZ) [.ref (a 5), .int (nI p), .int (nI nw)] (wC a cI cZ σ) (wC a cI cZ (cForward σ p nw)) := by
  refine jV_of (ws' := jG) (by decide) rfl (Nat.le_of_ble_eq_true rfl) ?_
  intro X hF hk
  show jJ l D (rmD 1) 8 X (wC a cI cZ σ) 0 [(0, .ref (a 5)), (1, .int (nI p)), (2, .int (nI nw))] []
  refine jq_iload_n (pc := 0) hF 1 dK_forward_0 rfl ?_
  refine jq_iconst (pc := 1) hF dK_forward_1 ic_4 ?_
  refine jq_idivN (pc := 2) hF (by omega) (by decide) (by decide) dK_forward_2 ?_
  refine jq_istore_n (pc := 3) hF [(3, .int (nI (p / 4))), (0, .ref (a 5)), (1, .int (nI p)), (2, .int (nI nw))] dK_forward_3 (Nat.le_of_ble_eq_true rfl) rfl ?_
  refine jq_aload_n (pc := 4) hF 1 dK_forward_4 rfl ?_
  refine Cg_K_59 (pc := 5) hF dK_forward_5 ?_
  refine jq_iconst (pc := 8) hF dK_forward_8 ic_m1 ?_
  have j29 : jJ l D (rmD 1) 8 X (wC a cI cZ σ) 29 [(3, .int (nI (p / 4))), (0, .ref (a 5)), (1, .int (nI p)), (2, .int (nI nw))] [.int (if ¬ (σ 5 2 = -1) then cPort σ (p / 4) (nw) ((σ 5 2).toNatClampNeg) else -1)] := by
    refine jq_top (cKnown σ p nw) (rfl) ?_
    refine jq_istore (pc := 29) hF [(4, .int (cKnown σ p nw)), (3, .int (nI (p / 4))), (0, .ref (a 5)), (1, .int (nI p)), (2, .int (nI nw))] dK_forward_29 (Nat.le_of_ble_eq_true rfl) rfl ?_
    refine jq_iconst (pc := 31) hF dK_forward_31 ic_0 ?_
    refine jq_istore (pc := 32) hF [(5, .int (nI 0)), (4, .int (cKnown σ p nw)), (3, .int (nI (p / 4))), (0, .ref (a 5)), (1, .int (nI p)), (2, .int (nI nw))] dK_forward_32 (Nat.le_of_ble_eq_true rfl) rfl ?_
    have lp34 : ∀ k, k ≤ 4 → jJ l D (rmD 1) 8 X (wC a cI cZ (forN (cFwd1 p nw (cKnown σ p nw)) σ k)) 34 [(5, .int (nI k)), (4, .int (cKnown σ p nw)), (3, .int (nI (p / 4))), (0, .ref (a 5)), (1, .int (nI p)), (2, .int (nI nw))] [] := by
      refine loop_up (fun k hi ih => ?_)
      have hSk := cFwdN_ok hS (cKnown σ p nw) hp hn k hi
      refine jq_iload (pc := 34) hF 0 dK_forward_34 rfl ?_
      refine jq_iconst (pc := 36) hF dK_forward_36 ic_4 ?_
      refine jq_icmp_geN (pc := 37) hF 128 (by omega) (by omega) dK_forward_37 rfl (fun h37 => ?_) (fun h37 => ?_)
      · obtain rfl : k = 4 := by omega
        exact jq_at (hk 128 _ dK_forward_128) (congrArg (wC a cI cZ) (by rfl)) rfl rfl rfl
      · refine jq_iconst (pc := 40) hF dK_forward_40 ic_4 ?_
        refine jq_iload_n (pc := 41) hF 2 dK_forward_41 rfl ?_
        refine jq_imulN (pc := 42) hF dK_forward_42 ?_
        refine jq_iload (pc := 43) hF 0 dK_forward_43 rfl ?_
        refine jq_iaddN (pc := 45) hF dK_forward_45 ?_
        refine jq_istore (pc := 46) hF [(6, .int (nI (4 * (p / 4) + k))), (5, .int (nI k)), (4, .int (cKnown σ p nw)), (3, .int (nI (p / 4))), (0, .ref (a 5)), (1, .int (nI p)), (2, .int (nI nw))] dK_forward_46 (Nat.le_of_ble_eq_true rfl) rfl ?_
        have j72 : jJ l D (rmD 1) 8 X (wC a cI cZ (forN (cFwd1 p nw (cKnown σ p nw)) σ k)) 72 [(6, .int (nI (4 * (p / 4) + k))), (5, .int (nI k)), (4, .int (cKnown σ p nw)), (3, .int (nI (p / 4))), (0, .ref (a 5)), (1, .int (nI p)), (2, .int (nI nw))] [.int (bI (!decide (4 * (p / 4) + k = p) && (decide (cKnown σ p nw = -1) || decide (cKnown σ p nw = nI k))))] := by
          refine jq_istore (pc := 72) hF [(7, .int (bI (!decide (4 * (p / 4) + k = p) && (decide (cKnown σ p nw = -1) || decide (cKnown σ p nw = nI k))))), (6, .int (nI (4 * (p / 4) + k))), (5, .int (nI k)), (4, .int (cKnown σ p nw)), (3, .int (nI (p / 4))), (0, .ref (a 5)), (1, .int (nI p)), (2, .int (nI nw))] dK_forward_72 (Nat.le_of_ble_eq_true rfl) rfl ?_
          refine jq_iload (pc := 74) hF 0 dK_forward_74 rfl ?_
          refine jq_if_eqB (pc := 76) hF 122 dK_forward_76 rfl (fun h76 => ?_) (fun h76 => ?_)
          · refine jq_iincN (pc := 122) hF 2 [(5, .int (nI (k + 1))), (7, .int (bI (!decide (4 * (p / 4) + k = p) && (decide (cKnown σ p nw = -1) || decide (cKnown σ p nw = nI k))))), (6, .int (nI (4 * (p / 4) + k))), (4, .int (cKnown σ p nw)), (3, .int (nI (p / 4))), (0, .ref (a 5)), (1, .int (nI p)), (2, .int (nI nw))] dK_forward_122 rfl (Nat.le_of_ble_eq_true rfl) rfl ?_
            refine jq_goto (pc := 125) hF 34 dK_forward_125 rfl ?_
            refine jq_sub [(5, .int (nI (k + 1))), (4, .int (cKnown σ p nw)), (3, .int (nI (p / 4))), (0, .ref (a 5)), (1, .int (nI p)), (2, .int (nI nw))] [0, 3, 4, 5, 6, 7] rfl ?_
            exact jq_at (ih (by omega)) (congrArg (wC a cI cZ) (by first | exact if_neg (by rw [h76]; decide) | exact (if_pos h76).trans (if_pos h90) | exact (if_pos h76).trans ((if_neg (fun e => e h90)).trans (if_neg (by rw [h103]; decide))) | exact (if_pos h76).trans ((if_neg (fun e => e h90)).trans (if_pos h103)))) rfl rfl rfl
          · refine jq_aload_n (pc := 79) hF 5 dK_forward_79 rfl ?_
            refine Cg_K_26 (pc := 80) hF dK_forward_80 ?_
            refine Cg_K_78 (pc := 83) hF dK_forward_83 ?_
            refine jq_iload (pc := 86) hF 1 dK_forward_86 rfl ?_
            refine Cl_27 (pc := 88) hF (by omega) dK_forward_88 ?_
            refine jq_iconst (pc := 89) hF dK_forward_89 ic_3 ?_
            refine jq_icmp_ne (pc := 90) hF 122 dK_forward_90 rfl (fun h90 => ?_) (fun h90 => ?_)
            · refine jq_iincN (pc := 122) hF 2 [(5, .int (nI (k + 1))), (7, .int (bI (!decide (4 * (p / 4) + k = p) && (decide (cKnown σ p nw = -1) || decide (cKnown σ p nw = nI k))))), (6, .int (nI (4 * (p / 4) + k))), (4, .int (cKnown σ p nw)), (3, .int (nI (p / 4))), (0, .ref (a 5)), (1, .int (nI p)), (2, .int (nI nw))] dK_forward_122 rfl (Nat.le_of_ble_eq_true rfl) rfl ?_
              refine jq_goto (pc := 125) hF 34 dK_forward_125 rfl ?_
              refine jq_sub [(5, .int (nI (k + 1))), (4, .int (cKnown σ p nw)), (3, .int (nI (p / 4))), (0, .ref (a 5)), (1, .int (nI p)), (2, .int (nI nw))] [0, 3, 4, 5, 6, 7] rfl ?_
              exact jq_at (ih (by omega)) (congrArg (wC a cI cZ) (by first | exact if_neg (by rw [h76]; decide) | exact (if_pos h76).trans (if_pos h90) | exact (if_pos h76).trans ((if_neg (fun e => e h90)).trans (if_neg (by rw [h103]; decide))) | exact (if_pos h76).trans ((if_neg (fun e => e h90)).trans (if_pos h103)))) rfl rfl rfl
            · refine jq_aload_n (pc := 93) hF 5 dK_forward_93 rfl ?_
              refine Cg_K_22 (pc := 94) hF dK_forward_94 ?_
              refine jq_iload (pc := 97) hF 1 dK_forward_97 rfl ?_
              refine jq_iload_n (pc := 99) hF 7 dK_forward_99 rfl ?_
              refine jq_cVI (pc := 100) hF (As := [.int (nI (4 * (p / 4) + k)), .int (nI nw)]) (rest := []) (mW_isMember l D a cI cZ (forN (cFwd1 p nw (cKnown σ p nw)) σ k) (4 * (p / 4) + k) (nI (nw)) (by omega)) (jG_v mL_K_99 mI_W_isMember mS_W_isMember mZ_W mC_W_isMember) rfl rfl rfl dd_W_isMember ⟨Nat.le_of_ble_eq_true rfl, Nat.le_of_ble_eq_true rfl⟩ 2 rfl rfl rfl rfl (Nat.le_of_ble_eq_true rfl) dK_forward_100 ?_
              refine jq_if_eqB (pc := 103) hF 122 dK_forward_103 rfl (fun h103 => ?_) (fun h103 => ?_)
              · refine jq_iincN (pc := 122) hF 2 [(5, .int (nI (k + 1))), (7, .int (bI (!decide (4 * (p / 4) + k = p) && (decide (cKnown σ p nw = -1) || decide (cKnown σ p nw = nI k))))), (6, .int (nI (4 * (p / 4) + k))), (4, .int (cKnown σ p nw)), (3, .int (nI (p / 4))), (0, .ref (a 5)), (1, .int (nI p)), (2, .int (nI nw))] dK_forward_122 rfl (Nat.le_of_ble_eq_true rfl) rfl ?_
                refine jq_goto (pc := 125) hF 34 dK_forward_125 rfl ?_
                refine jq_sub [(5, .int (nI (k + 1))), (4, .int (cKnown σ p nw)), (3, .int (nI (p / 4))), (0, .ref (a 5)), (1, .int (nI p)), (2, .int (nI nw))] [0, 3, 4, 5, 6, 7] rfl ?_
                exact jq_at (ih (by omega)) (congrArg (wC a cI cZ) (by first | exact if_neg (by rw [h76]; decide) | exact (if_pos h76).trans (if_pos h90) | exact (if_pos h76).trans ((if_neg (fun e => e h90)).trans (if_neg (by rw [h103]; decide))) | exact (if_pos h76).trans ((if_neg (fun e => e h90)).trans (if_pos h103)))) rfl rfl rfl
              · refine jq_aload_n (pc := 106) hF 5 dK_forward_106 rfl ?_
                refine jq_iload (pc := 107) hF 1 dK_forward_107 rfl ?_
                refine jq_aload_n (pc := 109) hF 5 dK_forward_109 rfl ?_
                refine Cg_K_22 (pc := 110) hF dK_forward_110 ?_
                refine jq_iload (pc := 113) hF 1 dK_forward_113 rfl ?_
                refine jq_iload_n (pc := 115) hF 7 dK_forward_115 rfl ?_
                refine jq_cVI (pc := 116) hF (As := [.int (nI (4 * (p / 4) + k)), .int (nI nw)]) (rest := [.int (nI (4 * (p / 4) + k)), .ref (a 5)]) (mW_tagOutside l D a cI cZ (forN (cFwd1 p nw (cKnown σ p nw)) σ k) (4 * (p / 4) + k) (nI (nw)) (by omega)) (jG_v mL_K_50 mI_W_tagOutside mS_W_tagOutside mZ_W mC_W_tagOutside) rfl rfl rfl dd_W_tagOutside ⟨Nat.le_of_ble_eq_true rfl, Nat.le_of_ble_eq_true rfl⟩ 2 rfl rfl rfl rfl (Nat.le_of_ble_eq_true rfl) dK_forward_116 ?_
                refine jq_cVV (pc := 119) hF (As := [.int (nI (4 * (p / 4) + k)), .int (cTagOut (forN (cFwd1 p nw (cKnown σ p nw)) σ k) (4 * (p / 4) + k) (nI (nw)))]) (rest := []) (mK_goOut l D a cI cZ (forN (cFwd1 p nw (cKnown σ p nw)) σ k) (4 * (p / 4) + k) (cTagOut (forN (cFwd1 p nw (cKnown σ p nw)) σ k) (4 * (p / 4) + k) (nI (nw))) (by omega) hSk.2.1) (jG_v mL_K_103 mI_K_goOut mS_K_goOut mZ_K mC_K_goOut) rfl rfl rfl dd_K_goOut ⟨Nat.le_of_ble_eq_true rfl, Nat.le_of_ble_eq_true rfl⟩ 5 rfl rfl rfl rfl (Nat.le_of_ble_eq_true rfl) dK_forward_119 ?_
                refine jq_iincN (pc := 122) hF 2 [(5, .int (nI (k + 1))), (7, .int (bI (!decide (4 * (p / 4) + k = p) && (decide (cKnown σ p nw = -1) || decide (cKnown σ p nw = nI k))))), (6, .int (nI (4 * (p / 4) + k))), (4, .int (cKnown σ p nw)), (3, .int (nI (p / 4))), (0, .ref (a 5)), (1, .int (nI p)), (2, .int (nI nw))] dK_forward_122 rfl (Nat.le_of_ble_eq_true rfl) rfl ?_
                refine jq_goto (pc := 125) hF 34 dK_forward_125 rfl ?_
                refine jq_sub [(5, .int (nI (k + 1))), (4, .int (cKnown σ p nw)), (3, .int (nI (p / 4))), (0, .ref (a 5)), (1, .int (nI p)), (2, .int (nI nw))] [0, 3, 4, 5, 6, 7] rfl ?_
                exact jq_at (ih (by omega)) (congrArg (wC a cI cZ) (by first | exact if_neg (by rw [h76]; decide) | exact (if_pos h76).trans (if_pos h90) | exact (if_pos h76).trans ((if_neg (fun e => e h90)).trans (if_neg (by rw [h103]; decide))) | exact (if_pos h76).trans ((if_neg (fun e => e h90)).trans (if_pos h103)))) rfl rfl rfl
        refine jq_iload (pc := 48) hF 0 dK_forward_48 rfl ?_
        refine jq_iload_n (pc := 50) hF 5 dK_forward_50 rfl ?_
        refine jq_icmp_eqN (pc := 51) hF 71 (by omega) (by omega) dK_forward_51 rfl (fun h51 => ?_) (fun h51 => ?_)
        · refine jq_iconst (pc := 71) hF dK_forward_71 ic_0 ?_
          exact jq_at j72 rfl rfl rfl (congrArg (fun z => Value.int z :: []) (bI0 (by simp [h37, h51])))
        · refine jq_iload (pc := 54) hF 2 dK_forward_54 rfl ?_
          refine jq_iconst (pc := 56) hF dK_forward_56 ic_m1 ?_
          refine jq_icmp_eq (pc := 57) hF 67 dK_forward_57 rfl (fun h57 => ?_) (fun h57 => ?_)
          · refine jq_iconst (pc := 67) hF dK_forward_67 ic_1 ?_
            refine jq_goto (pc := 68) hF 72 dK_forward_68 rfl ?_
            exact jq_at j72 rfl rfl rfl (congrArg (fun z => Value.int z :: []) (bI1 (by simp [h37, h51, h57])))
          · refine jq_iload (pc := 60) hF 2 dK_forward_60 rfl ?_
            refine jq_iload (pc := 62) hF 1 dK_forward_62 rfl ?_
            refine jq_icmp_ne (pc := 64) hF 71 dK_forward_64 rfl (fun h64 => ?_) (fun h64 => ?_)
            · refine jq_iconst (pc := 71) hF dK_forward_71 ic_0 ?_
              exact jq_at j72 rfl rfl rfl (congrArg (fun z => Value.int z :: []) (bI0 (by simp [h37, h51, h57, h64])))
            · refine jq_iconst (pc := 67) hF dK_forward_67 ic_1 ?_
              refine jq_goto (pc := 68) hF 72 dK_forward_68 rfl ?_
              exact jq_at j72 rfl rfl rfl (congrArg (fun z => Value.int z :: []) (bI1 (by simp [h37, h51, h57, h64])))
    exact jq_at (lp34 0 (by omega)) rfl rfl rfl rfl
  refine jq_icmp_ne (pc := 9) hF 16 dK_forward_9 rfl (fun h9 => ?_) (fun h9 => ?_)
  · refine jq_aload_n (pc := 16) hF 1 dK_forward_16 rfl ?_
    refine Cg_K_30 (pc := 17) hF dK_forward_17 ?_
    refine jq_iload_n (pc := 20) hF 0 dK_forward_20 rfl ?_
    refine jq_iload_n (pc := 21) hF 3 dK_forward_21 rfl ?_
    refine jq_aload_n (pc := 22) hF 1 dK_forward_22 rfl ?_
    refine Cg_K_59 (pc := 23) hF dK_forward_23 ?_
    refine jq_top (nI ((σ 5 2).toNatClampNeg)) ((hS.2.2.2.cl h9 (by decide)).2) ?_
    refine jq_cVI (pc := 26) hF (As := [.int (nI (p / 4)), .int (nI nw), .int (nI ((σ 5 2).toNatClampNeg))]) (rest := []) (mB_portOf l D a cI cZ σ (p / 4) (nw) ((σ 5 2).toNatClampNeg) (by omega) hn (hS.2.2.2.cl h9 (by decide)).1) (jG_v mL_K_95 mI_B_portOf mS_B_portOf mZ_B mC_B_portOf) rfl rfl rfl dd_B_portOf ⟨Nat.le_of_ble_eq_true rfl, Nat.le_of_ble_eq_true rfl⟩ 4 rfl rfl rfl rfl (Nat.le_of_ble_eq_true rfl) dK_forward_26 ?_
    exact jq_at j29 rfl rfl rfl (by rw [if_pos h9])
  · refine jq_iconst (pc := 12) hF dK_forward_12 ic_m1 ?_
    refine jq_goto (pc := 13) hF 29 dK_forward_13 rfl ?_
    exact jq_at j29 rfl rfl rfl (by rw [if_neg (show ¬ (¬ (σ 5 2 = -1)) by simp [h9])])
set_option maxHeartbeats 4000000 in
set_option maxRecDepth 100000 in
theorem mK_handleArrival (l : Launch) (D : va_G) (a : Nat → Nat) (cI cZ : ClassId) (σ : jS) (p : Nat) (tag : Int32) (hp : p < 24) (ht : okQ 4 tag) (hS : cOkS σ) : jV l yK_handleArrival w_K_handleArrival (rmD 2) D (jTys cI cZ) [.ref (a 5), .int (nI p), .int (tag)] (wC a cI cZ σ) (wC a cI cZ (cHandle σ p tag)) := by
  refine jV_of (ws' := jG) (by decide) rfl (Nat.le_of_ble_eq_true rfl) ?_
  intro X hF hk
  show jJ l D (rmD 2) 4 X (wC a cI cZ σ) 0 [(0, .ref (a 5)), (1, .int (nI p)), (2, .int (tag))] []
  refine jq_aload_n (pc := 0) hF 0 dK_handleArrival_0 rfl ?_
  refine Cg_K_22 (pc := 1) hF dK_handleArrival_1 ?_
  refine jq_iload_n (pc := 4) hF 1 dK_handleArrival_4 rfl ?_
  refine jq_iload_n (pc := 5) hF 2 dK_handleArrival_5 rfl ?_
  refine jq_cVI (pc := 6) hF (As := [.int (nI p), .int (tag)]) (rest := []) (mW_networkInside l D a cI cZ σ (p) (tag) (by omega)) (jG_v mL_K_75 mI_W_networkInside mS_W_networkInside mZ_W mC_W_networkInside) rfl rfl rfl dd_W_networkInside ⟨Nat.le_of_ble_eq_true rfl, Nat.le_of_ble_eq_true rfl⟩ 2 rfl rfl rfl rfl (Nat.le_of_ble_eq_true rfl) dK_handleArrival_6 ?_
  refine jq_istore_n (pc := 9) hF [(3, .int (cInside σ (p) (tag))), (0, .ref (a 5)), (1, .int (nI p)), (2, .int (tag))] dK_handleArrival_9 (Nat.le_of_ble_eq_true rfl) rfl ?_
  refine jq_aload_n (pc := 10) hF 1 dK_handleArrival_10 rfl ?_
  refine Cg_K_26 (pc := 11) hF dK_handleArrival_11 ?_
  refine Cg_K_78 (pc := 14) hF dK_handleArrival_14 ?_
  refine jq_iload_n (pc := 17) hF 2 dK_handleArrival_17 rfl ?_
  refine Cl_27 (pc := 18) hF (by omega) dK_handleArrival_18 ?_
  refine jq_iconst (pc := 19) hF dK_handleArrival_19 ic_2 ?_
  refine jq_icmp_lt (pc := 20) hF 28 dK_handleArrival_20 rfl (fun h20 => ?_) (fun h20 => ?_)
  · exact jq_at (hk 28 _ dK_handleArrival_28) (congrArg (wC a cI cZ) (by first | exact if_pos h20 | exact (if_neg h20).trans (if_neg (fun e => e h25)))) rfl rfl rfl
  · refine jq_iload_n (pc := 23) hF 0 dK_handleArrival_23 rfl ?_
    refine jq_iconst (pc := 24) hF dK_handleArrival_24 ic_m1 ?_
    refine jq_icmp_ne (pc := 25) hF 29 dK_handleArrival_25 rfl (fun h25 => ?_) (fun h25 => ?_)
    · refine jq_aload_n (pc := 29) hF 1 dK_handleArrival_29 rfl ?_
      refine Cg_K_30 (pc := 30) hF dK_handleArrival_30 ?_
      refine jq_iload_n (pc := 33) hF 2 dK_handleArrival_33 rfl ?_
      refine jq_iload_n (pc := 34) hF 0 dK_handleArrival_34 rfl ?_
      refine jq_top (nI ((cInside σ p tag).toNatClampNeg)) (((cInside_ok hS.1 hp ht).cl h25 (by decide)).2) ?_
      refine jq_aload_n (pc := 35) hF 1 dK_handleArrival_35 rfl ?_
      refine Cg_K_56 (pc := 36) hF dK_handleArrival_36 ?_
      refine jq_top (nI ((σ 5 1).toNatClampNeg)) ((hS.2.2.1.cl (by decide)).2) ?_
      refine jq_aload_n (pc := 39) hF 1 dK_handleArrival_39 rfl ?_
      refine Cg_K_26 (pc := 40) hF dK_handleArrival_40 ?_
      refine Cg_K_83 (pc := 43) hF dK_handleArrival_43 ?_
      refine jq_cVV (pc := 46) hF (As := [.int (nI p), .int (nI ((cInside σ p tag).toNatClampNeg)), .int (nI ((σ 5 1).toNatClampNeg)), .int (σ 3 2)]) (rest := []) (mB_learn l D a cI cZ σ (p) ((cInside σ p tag).toNatClampNeg) ((σ 5 1).toNatClampNeg) (σ 3 2) hp ((cInside_ok hS.1 hp ht).cl h25 (by decide)).1 (hS.2.2.1.cl (by decide)).1) (jG_v mL_K_86 mI_B_learn mS_B_learn mZ_B mC_B_learn) rfl rfl rfl dd_B_learn ⟨Nat.le_of_ble_eq_true rfl, Nat.le_of_ble_eq_true rfl⟩ 4 rfl rfl rfl rfl (Nat.le_of_ble_eq_true rfl) dK_handleArrival_46 ?_
      refine jq_w (wC a cI cZ (cLearnS σ p tag)) (congrArg (wC a cI cZ) (by rfl)) ?_
      refine jq_aload_n (pc := 49) hF 1 dK_handleArrival_49 rfl ?_
      refine Cg_K_26 (pc := 50) hF dK_handleArrival_50 ?_
      refine Cg_K_78 (pc := 53) hF dK_handleArrival_53 ?_
      refine jq_iload_n (pc := 56) hF 2 dK_handleArrival_56 rfl ?_
      refine Cl_27 (pc := 57) hF (by omega) dK_handleArrival_57 ?_
      refine jq_iconst (pc := 58) hF dK_handleArrival_58 ic_3 ?_
      refine jq_icmp_ne (pc := 59) hF 68 dK_handleArrival_59 rfl (fun h59 => ?_) (fun h59 => ?_)
      · exact jq_at (hk 68 _ dK_handleArrival_68) (congrArg (wC a cI cZ) (by first | exact (if_neg h20).trans ((if_pos h25).trans (if_pos h59)) | exact (if_neg h20).trans ((if_pos h25).trans (if_neg (fun e => e h59))))) rfl rfl rfl
      · refine jq_aload_n (pc := 62) hF 1 dK_handleArrival_62 rfl ?_
        refine jq_iload_n (pc := 63) hF 2 dK_handleArrival_63 rfl ?_
        refine jq_iload_n (pc := 64) hF 0 dK_handleArrival_64 rfl ?_
        refine jq_top (nI ((cInside σ p tag).toNatClampNeg)) (((cInside_ok hS.1 hp ht).cl h25 (by decide)).2) ?_
        refine jq_cVV (pc := 65) hF (As := [.int (nI p), .int (nI ((cInside σ p tag).toNatClampNeg))]) (rest := []) (mK_forward l D a cI cZ (cLearnS σ p tag) (p) ((cInside σ p tag).toNatClampNeg) hp ((cInside_ok hS.1 hp ht).cl h25 (by decide)).1 (cLearnS_ok hS p tag)) (jG_v mL_K_92 mI_K_forward mS_K_forward mZ_K mC_K_forward) rfl rfl rfl dd_K_forward ⟨Nat.le_of_ble_eq_true rfl, Nat.le_of_ble_eq_true rfl⟩ 5 rfl rfl rfl rfl (Nat.le_of_ble_eq_true rfl) dK_handleArrival_65 ?_
        exact jq_at (hk 68 _ dK_handleArrival_68) (congrArg (wC a cI cZ) (by first | exact (if_neg h20).trans ((if_pos h25).trans (if_pos h59)) | exact (if_neg h20).trans ((if_pos h25).trans (if_neg (fun e => e h59))))) rfl rfl rfl
    · exact jq_at (hk 28 _ dK_handleArrival_28) (congrArg (wC a cI cZ) (by first | exact if_pos h20 | exact (if_neg h20).trans (if_neg (fun e => e h25)))) rfl rfl rfl
set_option maxHeartbeats 4000000 in
set_option maxRecDepth 100000 in
theorem mK_carry (l : Launch) (D : va_G) (a : Nat → Nat) (cI cZ : ClassId) (σ : jS) (from_ : Int32) (to : Int32) (place : Int32) (tag : Int32) (hf : okP 7 from_) (ht : okQ 7 to) (hp : okP 24 place) (hg : okQ 4 tag) (hI : cInv σ) : jI l yK_carry w_K_carry (rmD 3) D (jTys cI cZ) [.ref (a 5), .int (from_), .int (to), .int (place), .int (tag)] (wC a cI cZ σ) (wC a cI cZ (cCarry σ from_ to place tag)) ((cCarry σ from_ to place tag) 5 4) := by
  refine jI_of (ws' := jG) rfl (by decide) rfl (Nat.le_of_ble_eq_true rfl) ?_
  intro X hF hk
  show jJ l D (rmD 3) 6 X (wC a cI cZ σ) 0 [(0, .ref (a 5)), (1, .int (from_)), (2, .int (to)), (3, .int (place)), (4, .int (tag))] []
  refine jq_aload_n (pc := 0) hF 0 dK_carry_0 rfl ?_
  refine jq_iload_n (pc := 1) hF 1 dK_carry_1 rfl ?_
  refine Cp_K_56 (pc := 2) hF dK_carry_2 ?_
  refine jq_aload_n (pc := 5) hF 0 dK_carry_5 rfl ?_
  refine jq_iload_n (pc := 6) hF 2 dK_carry_6 rfl ?_
  refine Cp_K_59 (pc := 7) hF dK_carry_7 ?_
  refine jq_aload_n (pc := 10) hF 0 dK_carry_10 rfl ?_
  refine jq_iconst (pc := 11) hF dK_carry_11 ic_0 ?_
  refine Cp_K_62 (pc := 12) hF dK_carry_12 ?_
  refine jq_aload_n (pc := 15) hF 0 dK_carry_15 rfl ?_
  refine jq_iconst (pc := 16) hF dK_carry_16 ic_0 ?_
  refine Cp_K_65 (pc := 17) hF dK_carry_17 ?_
  refine jq_aload_n (pc := 20) hF 0 dK_carry_20 rfl ?_
  refine Cg_K_9 (pc := 21) hF dK_carry_21 ?_
  refine jq_iconst (pc := 24) hF dK_carry_24 ic_0 ?_
  refine jq_iload_n (pc := 25) hF 3 dK_carry_25 rfl ?_
  refine Cs_33 (pc := 26) hF (by omega) dK_carry_26 ?_
  refine jq_aload_n (pc := 27) hF 0 dK_carry_27 rfl ?_
  refine Cg_K_15 (pc := 28) hF dK_carry_28 ?_
  refine jq_iconst (pc := 31) hF dK_carry_31 ic_0 ?_
  refine jq_iload (pc := 32) hF 4 dK_carry_32 rfl ?_
  refine Cs_34 (pc := 34) hF (by omega) dK_carry_34 ?_
  refine jq_aload_n (pc := 35) hF 0 dK_carry_35 rfl ?_
  refine jq_iconst (pc := 36) hF dK_carry_36 ic_1 ?_
  refine Cp_K_68 (pc := 37) hF dK_carry_37 ?_
  refine jq_w (wC a cI cZ (cStart σ from_ to place tag)) (congrArg (wC a cI cZ) (by rfl)) ?_
  refine jq_iconst (pc := 40) hF dK_carry_40 ic_0 ?_
  refine jq_istore (pc := 41) hF [(5, .int (nI 0)), (0, .ref (a 5)), (1, .int (from_)), (2, .int (to)), (3, .int (place)), (4, .int (tag))] dK_carry_41 (Nat.le_of_ble_eq_true rfl) rfl ?_
  have lp43 : ∀ i, i ≤ 61 → ∀ S : jS, cOkS S ∧ cRun i (61 - i) S = cRun 0 61 (cStart σ from_ to place tag) → jJ l D (rmD 3) 6 X (wC a cI cZ S) 43 [(5, .int (nI i)), (0, .ref (a 5)), (1, .int (from_)), (2, .int (to)), (3, .int (place)), (4, .int (tag))] [] := by
    refine loop_st (fun i hi ih S hS => ?_)
    refine jq_iload (pc := 43) hF 0 dK_carry_43 rfl ?_
    refine jq_aload_n (pc := 45) hF 1 dK_carry_45 rfl ?_
    refine Cg_K_68 (pc := 46) hF dK_carry_46 ?_
    refine jq_icmp_ge (pc := 49) hF 86 dK_carry_49 rfl (fun h49 => ?_) (fun h49 => ?_)
    · have eS : S = cRun 0 61 (cStart σ from_ to place tag) := by
        rw [← hS.2]
        first | exact (cRun_stop h49).symm | (rw [show 61 - i = 0 by omega]; rfl)
      refine jq_w (wC a cI cZ (cRun 0 61 (cStart σ from_ to place tag))) (congrArg (wC a cI cZ) (by exact eS)) ?_
      refine jq_aload_n (pc := 86) hF 1 dK_carry_86 rfl ?_
      refine jq_dup (pc := 87) hF dK_carry_87 rfl ?_
      refine Cg_K_34 (pc := 88) hF dK_carry_88 ?_
      refine jq_aload_n (pc := 91) hF 1 dK_carry_91 rfl ?_
      refine Cg_K_62 (pc := 92) hF dK_carry_92 ?_
      refine jq_iadd (pc := 95) hF dK_carry_95 ?_
      refine Cp_K_34 (pc := 96) hF dK_carry_96 ?_
      refine jq_aload_n (pc := 99) hF 1 dK_carry_99 rfl ?_
      refine Cg_K_65 (pc := 100) hF dK_carry_100 ?_
      exact jq_at (hk 103 _ dK_carry_103) (congrArg (wC a cI cZ) (by rfl)) rfl rfl (congrArg (fun z => [Value.int z]) (by rfl))
    · refine jq_iload (pc := 52) hF 0 dK_carry_52 rfl ?_
      refine jq_aload_n (pc := 54) hF 1 dK_carry_54 rfl ?_
      refine Cg_K_9 (pc := 55) hF dK_carry_55 ?_
      refine jq_alen (pc := 58) hF 33 0 rfl rfl dK_carry_58 ?_
      refine jq_icmp_geN (pc := 59) hF 86 (by omega) (by omega) dK_carry_59 rfl (fun h59 => ?_) (fun h59 => ?_)
      · have eS : S = cRun 0 61 (cStart σ from_ to place tag) := by
          rw [← hS.2]
          first | exact (cRun_stop h49).symm | (rw [show 61 - i = 0 by omega]; rfl)
        refine jq_w (wC a cI cZ (cRun 0 61 (cStart σ from_ to place tag))) (congrArg (wC a cI cZ) (by exact eS)) ?_
        refine jq_aload_n (pc := 86) hF 1 dK_carry_86 rfl ?_
        refine jq_dup (pc := 87) hF dK_carry_87 rfl ?_
        refine Cg_K_34 (pc := 88) hF dK_carry_88 ?_
        refine jq_aload_n (pc := 91) hF 1 dK_carry_91 rfl ?_
        refine Cg_K_62 (pc := 92) hF dK_carry_92 ?_
        refine jq_iadd (pc := 95) hF dK_carry_95 ?_
        refine Cp_K_34 (pc := 96) hF dK_carry_96 ?_
        refine jq_aload_n (pc := 99) hF 1 dK_carry_99 rfl ?_
        refine Cg_K_65 (pc := 100) hF dK_carry_100 ?_
        exact jq_at (hk 103 _ dK_carry_103) (congrArg (wC a cI cZ) (by rfl)) rfl rfl (congrArg (fun z => [Value.int z]) (by rfl))
      · refine jq_aload_n (pc := 62) hF 1 dK_carry_62 rfl ?_
        refine jq_aload_n (pc := 63) hF 1 dK_carry_63 rfl ?_
        refine Cg_K_9 (pc := 64) hF dK_carry_64 ?_
        refine jq_iload (pc := 67) hF 0 dK_carry_67 rfl ?_
        refine Cl_33 (pc := 69) hF (by omega) dK_carry_69 ?_
        refine jq_top (nI ((S 33 (i)).toNatClampNeg)) (((hS.1.1.ap (i := i) (by omega)).cl (by decide)).2) ?_
        refine jq_aload_n (pc := 70) hF 1 dK_carry_70 rfl ?_
        refine Cg_K_15 (pc := 71) hF dK_carry_71 ?_
        refine jq_iload (pc := 74) hF 0 dK_carry_74 rfl ?_
        refine Cl_34 (pc := 76) hF (by omega) dK_carry_76 ?_
        refine jq_cVV (pc := 77) hF (As := [.int (nI ((S 33 (i)).toNatClampNeg)), .int (S 34 (i))]) (rest := []) (mK_handleArrival l D a cI cZ S ((S 33 (i)).toNatClampNeg) (S 34 (i)) ((hS.1.1.ap (i := i) (by omega)).cl (by decide)).1 (hS.1.1.tag (by omega)) hS.1) (jG_v mL_K_71 mI_K_handleArrival mS_K_handleArrival mZ_K mC_K_handleArrival) rfl rfl rfl dd_K_handleArrival ⟨Nat.le_of_ble_eq_true rfl, Nat.le_of_ble_eq_true rfl⟩ 5 rfl rfl rfl rfl (Nat.le_of_ble_eq_true rfl) dK_carry_77 ?_
        refine jq_iincN (pc := 80) hF 0 [(5, .int (nI (i + 1))), (0, .ref (a 5)), (1, .int (from_)), (2, .int (to)), (3, .int (place)), (4, .int (tag))] dK_carry_80 rfl (Nat.le_of_ble_eq_true rfl) rfl ?_
        refine jq_goto (pc := 83) hF 43 dK_carry_83 rfl ?_
        refine jq_sub [(5, .int (nI (i + 1))), (0, .ref (a 5)), (1, .int (from_)), (2, .int (to)), (3, .int (place)), (4, .int (tag))] [0, 1, 2, 3, 4, 5] rfl ?_
        exact jq_at (ih (by omega) ((cHandle S ((S 33 (i)).toNatClampNeg) (S 34 (i)))) ⟨cHandle_ok hS.1 ((hS.1.1.ap (i := i) (by omega)).cl (by decide)).1 (hS.1.1.tag (by omega)), by rw [← hS.2, show 61 - i = (61 - (i + 1)) + 1 by omega, cRun_go h49]⟩) rfl rfl rfl rfl
  exact jq_at (lp43 0 (by omega) (cStart σ from_ to place tag) ⟨cStart_ok hI hf ht hp hg, rfl⟩) rfl rfl rfl rfl
set_option maxHeartbeats 4000000 in
set_option maxRecDepth 100000 in
theorem mK_carryFromHost (l : Launch) (D : va_G) (a : Nat → Nat) (cI cZ : ClassId) (σ : jS) (from_ : Nat) (to : Int32) (hf : from_ < 6) (ht : okQ 7 to) (hI : cInv σ) : jI l yK_carryFromHost w_K_carryFromHost (rmD 4) D (jTys cI cZ) [.ref (a 5), .int (nI from_), .int (to)] (wC a cI cZ σ) (wC a cI cZ (cCarry σ (nI from_) to (σ 10 from_) (-1))) ((cCarry σ (nI from_) to (σ 10 from_) (-1)) 5 4) := by
  refine jI_of (ws' := jG) rfl (by decide) rfl (Nat.le_of_ble_eq_true rfl) ?_
  intro X hF hk
  show jJ l D (rmD 4) 3 X (wC a cI cZ σ) 0 [(0, .ref (a 5)), (1, .int (nI from_)), (2, .int (to))] []
  refine jq_aload_n (pc := 0) hF 0 dK_carryFromHost_0 rfl ?_
  refine jq_iload_n (pc := 1) hF 1 dK_carryFromHost_1 rfl ?_
  refine jq_iload_n (pc := 2) hF 2 dK_carryFromHost_2 rfl ?_
  refine jq_aload_n (pc := 3) hF 0 dK_carryFromHost_3 rfl ?_
  refine Cg_K_18 (pc := 4) hF dK_carryFromHost_4 ?_
  refine Cg_K_38 (pc := 7) hF dK_carryFromHost_7 ?_
  refine jq_iload_n (pc := 10) hF 1 dK_carryFromHost_10 rfl ?_
  refine Cl_10 (pc := 11) hF (by omega) dK_carryFromHost_11 ?_
  refine jq_iconst (pc := 12) hF dK_carryFromHost_12 ic_m1 ?_
  refine jq_cVI (pc := 13) hF (As := [.int (nI from_), .int (to), .int (σ 10 (from_)), .int (-1)]) (rest := []) (mK_carry l D a cI cZ σ (nI (from_)) (to) (σ 10 (from_)) (-1) ⟨from_, by omega, rfl⟩ ht (hI.hp hf) (Or.inl rfl) hI) (jG_v mL_K_43 mI_K_carry mS_K_carry mZ_K mC_K_carry) rfl rfl rfl dd_K_carry ⟨Nat.le_of_ble_eq_true rfl, Nat.le_of_ble_eq_true rfl⟩ 5 rfl rfl rfl rfl (Nat.le_of_ble_eq_true rfl) dK_carryFromHost_13 ?_
  exact jq_at (hk 16 _ dK_carryFromHost_16) (congrArg (wC a cI cZ) (by rfl)) rfl rfl (congrArg (fun z => [Value.int z]) (by rfl))
set_option maxHeartbeats 4000000 in
set_option maxRecDepth 100000 in
theorem mK_carryFromRouter (l : Launch) (D : va_G) (a : Nat → Nat) (cI cZ : ClassId) (σ : jS) (nw : Int32) (to : Int32) (hn : okP 4 nw) (ht : okQ 7 to) (hI : cInv σ) : jI l yK_carryFromRouter w_K_carryFromRouter (rmD 4) D (jTys cI cZ) [.ref (a 5), .int (nw), .int (to)] (wC a cI cZ σ) (wC a cI cZ (if ¬ σ 1 3 = -1 then cCarry σ (nI 6) to (σ 1 3) (cTagOut σ (σ 1 3).toNatClampNeg nw) else σ)) (if ¬ σ 1 3 = -1 then (cCarry σ (nI 6) to (σ 1 3) (cTagOut σ (σ 1 3).toNatClampNeg nw)) 5 4 else nI 0) := by
  refine jI_of (ws' := jG) rfl (by decide) rfl (Nat.le_of_ble_eq_true rfl) ?_
  intro X hF hk
  show jJ l D (rmD 4) 4 X (wC a cI cZ σ) 0 [(0, .ref (a 5)), (1, .int (nw)), (2, .int (to))] []
  refine jq_aload_n (pc := 0) hF 0 dK_carryFromRouter_0 rfl ?_
  refine Cg_K_18 (pc := 1) hF dK_carryFromRouter_1 ?_
  refine Cg_K_47 (pc := 4) hF dK_carryFromRouter_4 ?_
  refine jq_istore_n (pc := 7) hF [(3, .int (σ 1 3)), (0, .ref (a 5)), (1, .int (nw)), (2, .int (to))] dK_carryFromRouter_7 (Nat.le_of_ble_eq_true rfl) rfl ?_
  refine jq_iload_n (pc := 8) hF 0 dK_carryFromRouter_8 rfl ?_
  refine jq_iconst (pc := 9) hF dK_carryFromRouter_9 ic_m1 ?_
  refine jq_icmp_ne (pc := 10) hF 15 dK_carryFromRouter_10 rfl (fun h10 => ?_) (fun h10 => ?_)
  · refine jq_aload_n (pc := 15) hF 1 dK_carryFromRouter_15 rfl ?_
    refine jq_bipush (pc := 16) hF dK_carryFromRouter_16 bi_6 ?_
    refine jq_iload_n (pc := 18) hF 3 dK_carryFromRouter_18 rfl ?_
    refine jq_iload_n (pc := 19) hF 0 dK_carryFromRouter_19 rfl ?_
    refine jq_aload_n (pc := 20) hF 1 dK_carryFromRouter_20 rfl ?_
    refine Cg_K_22 (pc := 21) hF dK_carryFromRouter_21 ?_
    refine jq_iload_n (pc := 24) hF 0 dK_carryFromRouter_24 rfl ?_
    refine jq_top (nI ((σ 1 3).toNatClampNeg)) ((hI.rt.cl h10 (by decide)).2) ?_
    refine jq_iload_n (pc := 25) hF 2 dK_carryFromRouter_25 rfl ?_
    refine jq_cVI (pc := 26) hF (As := [.int (nI ((σ 1 3).toNatClampNeg)), .int (nw)]) (rest := [.int (σ 1 3), .int (to), .int (nI 6), .ref (a 5)]) (mW_tagOutside l D a cI cZ σ ((σ 1 3).toNatClampNeg) (nw) (hI.rt.cl h10 (by decide)).1) (jG_v mL_K_50 mI_W_tagOutside mS_W_tagOutside mZ_W mC_W_tagOutside) rfl rfl rfl dd_W_tagOutside ⟨Nat.le_of_ble_eq_true rfl, Nat.le_of_ble_eq_true rfl⟩ 2 rfl rfl rfl rfl (Nat.le_of_ble_eq_true rfl) dK_carryFromRouter_26 ?_
    refine jq_cVI (pc := 29) hF (As := [.int (nI 6), .int (to), .int (σ 1 3), .int (cTagOut σ ((σ 1 3).toNatClampNeg) (nw))]) (rest := []) (mK_carry l D a cI cZ σ (nI (6)) (to) (σ 1 3) (cTagOut σ ((σ 1 3).toNatClampNeg) (nw)) ⟨6, by decide, rfl⟩ ht (hI.rt.resolve_left h10) (cTagOut_ok hn) hI) (jG_v mL_K_43 mI_K_carry mS_K_carry mZ_K mC_K_carry) rfl rfl rfl dd_K_carry ⟨Nat.le_of_ble_eq_true rfl, Nat.le_of_ble_eq_true rfl⟩ 5 rfl rfl rfl rfl (Nat.le_of_ble_eq_true rfl) dK_carryFromRouter_29 ?_
    exact jq_at (hk 32 _ dK_carryFromRouter_32) (congrArg (wC a cI cZ) (by exact if_pos h10)) rfl rfl (congrArg (fun z => [Value.int z]) (by exact if_pos h10))
  · refine jq_iconst (pc := 13) hF dK_carryFromRouter_13 ic_0 ?_
    exact jq_at (hk 14 _ dK_carryFromRouter_14) (congrArg (wC a cI cZ) (by exact if_neg (fun e => e h10))) rfl rfl (congrArg (fun z => [Value.int z]) (by exact if_neg (fun e => e h10)))
