/-! ticks, the first states, and the law's step -/
theorem ticks_rel {σ τ : jS} (h : zR σ τ) : ∀ n, zR (cTicks σ n) (mTicks τ n) := by
  intro n
  induction n with
  | zero => exact h
  | succ n ih => rw [cTicks_s, mTicks_s]; exact tick_rel ih
theorem tickB_eq (x : Int32) : cWithin x (nI 0) (nI 60) = mTickB x := by
  refine beq_of ?_
  rw [cW_iff (by decide) (by decide)]
  unfold mTickB
  rw [Bool.and_eq_true, Bool.not_eq_true', decide_eq_false_iff_not, decide_eq_true_eq, mW_iff (by decide)]
  exact ⟨fun ⟨k, e, _, b⟩ => ⟨k, e, b⟩, fun ⟨k, e, b⟩ => ⟨k, e, Nat.zero_le _, b⟩⟩
theorem near_eq {lo hi : Int32} (h : lo ≤ hi) (v : Int32) : cNear v lo hi = mNear v lo hi := by
  unfold cNear mNear
  rw [Int32.le_iff_toInt_le] at h
  by_cases a : v < hi
  · have a' := Int32.lt_iff_toInt_lt.mp a
    rw [if_pos a]
    by_cases b : lo < v
    · have b' := Int32.lt_iff_toInt_lt.mp b
      rw [if_pos b, if_pos (Int32.le_iff_toInt_le.mpr (by omega)), if_pos (Int32.le_iff_toInt_le.mpr (by omega))]
    · rw [if_neg b]
      rw [Int32.lt_iff_toInt_lt] at b
      by_cases c : lo ≤ v
      · have c' := Int32.le_iff_toInt_le.mp c
        rw [if_pos c, if_pos (Int32.le_iff_toInt_le.mpr (by omega))]
        exact Int32.toInt_inj.mp (by omega)
      · rw [if_neg c]
  · rw [if_neg a]
    rw [Int32.lt_iff_toInt_lt] at a
    rw [if_pos (c := lo ≤ v) (Int32.le_iff_toInt_le.mpr (by omega))]
    have e : (if v ≤ hi then v else hi) = hi := by
      by_cases c : v ≤ hi
      · have c' := Int32.le_iff_toInt_le.mp c
        rw [if_pos c]; exact Int32.toInt_inj.mp (by omega)
      · rw [if_neg c]
    rw [e]
    by_cases b : lo < hi
    · rw [if_pos b]
    · rw [if_neg b]
      rw [Int32.lt_iff_toInt_lt] at b
      exact Int32.toInt_inj.mp (by omega)
theorem near_in {a b : Nat} (h : a ≤ b) (hb : b < 2 ^ 31) (v : Int32) : ∃ k, a ≤ k ∧ k ≤ b ∧ mNear v (nI a) (nI b) = nI k := by
  unfold mNear
  by_cases c : nI a ≤ v
  · rw [if_pos c]
    by_cases d : v ≤ nI b
    · rw [if_pos d]
      obtain ⟨k, e, h1, h2⟩ := (cW_iff (x := v) (a := a) (b := b) (by omega) hb).mp (by unfold cWithin; rw [Bool.and_eq_true, decide_eq_true_eq, decide_eq_true_eq]; exact ⟨c, d⟩)
      exact ⟨k, h1, h2, e⟩
    · rw [if_neg d]; exact ⟨b, h, Nat.le_refl _, rfl⟩
  · rw [if_neg c]; exact ⟨a, Nat.le_refl _, h, rfl⟩
theorem okP0 {n : Nat} (h : 0 < n) : okP n 0 := ⟨0, h, rfl⟩
theorem s0C_inv (li de me : Int32) : cInv (s0C li de me) := by
  refine ⟨okP0 (by decide), okP0 (by decide), okP0 (by decide), Or.inl rfl, fun w _ => okP0 (by decide), fun w _ => okP0 (by decide), fun w _ => okP0 (by decide), fun p hp => Or.inl ?_, fun p hp => Or.inl ?_, fun w _ => okP0 (by decide), fun p hp => Or.inl ?_, fun w _ => okP0 (by decide), fun w _ => Or.inr (okP0 (by decide)), fun p hp hw => absurd ?_ hw, fun w hw => absurd hw (Nat.not_lt_zero _)⟩
  · exact fillF_at _ _ 24 p hp
  · exact fillF_at _ _ 24 p hp
  · exact fillF_at _ _ 6 p hp
  · exact fillF_at _ _ 24 p hp
theorem s0M_inv (li de me : Int32) : mInv (s0M li de me) :=
  ⟨okP0 (by decide), okP0 (by decide), okP0 (by decide), Or.inl rfl, fun w _ => okP0 (by decide), fun w _ => okP0 (by decide), fun w _ => okP0 (by decide), fun w _ => okP0 (by decide), fun w _ => okP0 (by decide), fun w _ => okP0 (by decide), fun w _ => okP0 (by decide), fun w _ => okP0 (by decide), fun w _ => Or.inr (okP0 (by decide))⟩
theorem s0_rel (li de me : Int32) : zR (s0C li de me) (s0M li de me) := by
  have hnb : mNb (s0M li de me) = 0 := rfl
  have hnw : mNw (s0M li de me) = 0 := rfl
  have f12 : ∀ p, p < 24 → s0C li de me 12 p = -1 := fun p hp => fillF_at _ _ 24 p hp
  have f13 : ∀ p, p < 24 → s0C li de me 13 p = -1 := fun p hp => fillF_at _ _ 24 p hp
  have f14 : ∀ p, p < 24 → s0C li de me 14 p = -1 := fun p hp => fillF_at _ _ 24 p hp
  have f16 : ∀ p, p < 24 → s0C li de me 16 p = nI 1 := fun p hp => fillF_at _ _ 24 p hp
  have g9 : ∀ p, p < 24 → s0M li de me 9 p = nI 1 := fun p hp => fillF_at _ _ 24 p hp
  have f31 : ∀ p, p < 168 → s0C li de me 31 p = -1 := fun p hp => fillF_at _ _ 168 p hp
  have hT : qT (s0C li de me) (s0M li de me) := by
    refine ⟨s0C_inv li de me, s0M_inv li de me, rfl, fun b hb => absurd hb (by rw [hnb]; omega), fun p hp => Or.inl ⟨rfl, f12 p hp, f13 p hp, f14 p hp⟩, fun p hp => ⟨rfl, okP0 (by decide), rfl, rfl, rfl, rfl, rfl, rfl, fun q => absurd rfl q⟩⟩
  refine ⟨⟨hT, fun b hb => absurd hb (by rw [hnb]; omega), fun p hp => ⟨?_, rfl, rfl⟩, fun b hb => rfl, rfl, ?_, fun p hp => absurd hp (by rw [hnb]; omega)⟩, ⟨⟨rfl, rfl, rfl⟩, ⟨?_, ?_, rfl, rfl⟩, ?_, ?_, ?_⟩, ⟨fun b hb => rfl, fun p hp => rfl⟩, ⟨fun w hw => ⟨rfl, okP0 (by decide)⟩, fun w hw => absurd hw (by rw [hnw]; omega), fun p hp h5 => absurd h5 (show ¬ (0 : Int32) = nI 1 by decide)⟩, fun h hh => ⟨rfl, rfl⟩, fun p hp => ⟨rfl, (f16 p hp).trans (g9 p hp).symm, rfl, fun _ => ?_⟩, fun e he => ⟨Or.inl ⟨f31 e he, rfl⟩, rfl⟩, ⟨fun b hb => okP0 (by decide), fun b hb hb6 => rfl, fun p hp hp24 => ⟨rfl, rfl, rfl⟩⟩⟩
  · show (0 : Int32) = bI (cActive 0)
    decide
  · show cNear de (nI 1) (nI 4) = mNear de (nI 1) (nI 4)
    exact near_eq (by decide) de
  · show cNear li (nI 6) (nI 12) = mNear li (nI 6) (nI 12)
    exact near_eq (by decide) li
  · show cNear me (nI 5) (nI 40) = mNear me (nI 5) (nI 40)
    exact near_eq (by decide) me
  · obtain ⟨k, h1, h2, e⟩ := near_in (a := 6) (b := 12) (by decide) (by decide) li
    exact ⟨k, by omega, e⟩
  · obtain ⟨k, h1, h2, e⟩ := near_in (a := 1) (b := 4) (by decide) (by decide) de
    exact ⟨k, by omega, by omega, e⟩
  · obtain ⟨k, h1, h2, e⟩ := near_in (a := 5) (b := 40) (by decide) (by decide) me
    exact ⟨k, by omega, by omega, e⟩
  · rw [g9 p hp]
    show nI 1 = nI 1 <<< ((0 : Int32) &&& 31)
    decide
theorem law_rel : lawStep zR := by
  intro σ τ h
  exact ⟨h.qT.1, h.qT.2.1,
    fun x => op_if (bridge_eq h x) (fun hb => bridge_rel h hb) h,
    fun x y c => op_if (wire_eq h x y c) (fun hb => wire_rel h hb) h,
    fun x s => op_if (host_eqB h x s) (fun hb => host_rel h hb) h,
    fun x => op_bi (router_eq h x) (fun hb => router_rel h hb) h,
    fun x n => op_bi (access_eq h x n) (fun hb => access_rel h hb) h,
    fun x n m => op_bi (trunk_eq h x n m) (fun hb => trunk_rel h hb) h,
    fun x off => op_bi (cut_eq h x off) (fun hb => cut_rel h hb) h,
    fun x => op_if (tickB_eq x) (fun _ => ⟨(ticks_rel h _).1.2.2.2.2.1, ticks_rel h _⟩) h,
    fun x => op_rd (place_eq h.qT x) (fun hb => role_ans h hb) h,
    fun x => op_rd (place_eq h.qT x) (fun hb => state_ans h hb) h,
    fun x => op_rd (br_eq h.qT x) (fun hb => root_ans h hb) h,
    fun x w => ⟨held_ans h x w, h⟩,
    fun x n a => op_rd (learned_eq h x n a) (fun hb => learned_ans h hb) h,
    fun x => op_rd (br_eq h.qT x) (fun hb => entries_ans h hb) h,
    fun x y => op_if (send_eq h x y) (fun hb => send_rel h hb) h,
    fun x y v => op_if (ask_eq h x y) (fun hb => ask_rel h hb) h,
    ⟨h.2.1.2.1.2.2.1, h⟩,
    ⟨h.2.1.2.1.2.2.2, h⟩⟩
