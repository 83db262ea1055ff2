/-! from the law's entry to its loop -/
def s0C (li de me : Int32) : jS := fun k => match k with
  | 0 => (fun i => match i with | 0 => (cNear me (nI 5) (nI 40)) | 1 => (nI 0) | _ => 0)
  | 1 => (fun i => match i with | 0 => 0 | 1 => 0 | 2 => 0 | 3 => (-1) | _ => 0)
  | 2 => (fun _ => 0)
  | 3 => (fun i => match i with | 0 => ((cNear li (nI 6) (nI 12))) | 1 => ((cNear de (nI 1) (nI 4))) | 2 => 0 | _ => 0)
  | 4 => (fun _ => 0)
  | 5 => (fun i => match i with | 0 => 0 | 1 => 0 | 2 => 0 | 3 => 0 | 4 => 0 | 5 => 0 | _ => 0)
  | 6 => (fun _ => 0)
  | 7 => (fun _ => 0)
  | 8 => (fun _ => 0)
  | 9 => (fun _ => 0)
  | 10 => (fun _ => 0)
  | 11 => (fun _ => 0)
  | 12 => (fillF (fun _ => 0) ((-1)) 24)
  | 13 => (fillF (fun _ => 0) ((-1)) 24)
  | 14 => (fillF (fun _ => 0) ((-1)) 24)
  | 15 => (fun _ => 0)
  | 16 => (fillF (fun _ => 0) ((nI 1)) 24)
  | 17 => (fun _ => 0)
  | 18 => (fun _ => 0)
  | 19 => (fun _ => 0)
  | 20 => (fun _ => 0)
  | 21 => (fun _ => 0)
  | 22 => (fun _ => 0)
  | 23 => (fun _ => 0)
  | 24 => (fillF (fun _ => 0) ((-1)) 6)
  | 25 => (fun _ => 0)
  | 26 => (fun _ => 0)
  | 27 => (fun _ => 0)
  | 28 => (fun _ => 0)
  | 29 => (fun _ => 0)
  | 30 => (fun _ => 0)
  | 31 => (fillF (fun _ => 0) ((-1)) 168)
  | 32 => (fun _ => 0)
  | 33 => (fun _ => 0)
  | 34 => (fun _ => 0)
  | _ => fun _ => 0
def s0M (li de me : Int32) : jS := fun k => match k with
  | 0 => (fun i => match i with | 0 => (mNear li (nI 6) (nI 12)) | 1 => (mNear de (nI 1) (nI 4)) | 2 => (mNear me (nI 5) (nI 40)) | 3 => 0 | 4 => 0 | 5 => 0 | 6 => 0 | 7 => (-1) | 8 => 0 | 9 => 0 | 10 => 0 | 11 => 0 | 12 => 0 | _ => 0)
  | 1 => (fun _ => 0)
  | 2 => (fun _ => 0)
  | 3 => (fun _ => 0)
  | 4 => (fun _ => 0)
  | 5 => (fun _ => 0)
  | 6 => (fun _ => 0)
  | 7 => (fun _ => 0)
  | 8 => (fun _ => 0)
  | 9 => (fillF (fun _ => 0) (nI 1) 24)
  | 10 => (fun _ => 0)
  | 11 => (fun _ => 0)
  | 12 => (fun _ => 0)
  | 13 => (fun _ => 0)
  | 14 => (fun _ => 0)
  | 15 => (fun _ => 0)
  | 16 => (fun _ => 0)
  | 17 => (fun _ => 0)
  | 18 => (fun _ => 0)
  | 19 => (fun _ => 0)
  | 20 => (fun _ => 0)
  | 21 => (fun _ => 0)
  | 22 => (fun _ => 0)
  | 23 => (fun _ => 0)
  | 24 => (fun _ => 0)
  | 25 => (fun _ => 0)
  | 26 => (fun _ => 0)
  | 27 => (fun _ => 0)
  | 28 => (fun _ => 0)
  | 29 => (fun _ => 0)
  | _ => fun _ => 0
section JS
variable {l : Launch} {D : va_G} {R : Room} {nL : Nat} {X : jX} {cc : ByteArray} {cw : Cond} {cI cZ : ClassId} {ret : Option FieldType} {wl : va_W} {pc : Nat} {L : List (Nat × Value)} {st : List Value} {b Ln : Nat} {xs : Nat → Int32}
theorem jq_cell (hF : jF D R nL X cc rL (cw :: jG) (jTys cI cZ) ret) (hX : lX X b Ln xs) {k : Nat} (hL : Ln < 2 ^ 31) (hk : k < 2 ^ 31) (hRm : (rmD 0).frames + 1 ≤ R.frames ∧ 8 + (2 + 11) + (rmD 0).locals ≤ R.locals) (hW : (st.map fun v => v.category).sum ≤ 8) (hd : decode cc pc = .ok (.invokestatic 9, 3)) (kk : jJ l D R nL X wl (pc + 3) L (.int (cellV Ln xs k) :: st)) : jJ l D R nL X wl pc L (.int (nI k) :: .ref b :: st) := by
  intro H locs ls hP hD hS hl
  have hA := hF.2.2.2.2.2.2.2.2.1
  have hXH : va_X b Ln xs _ H := hX.1.kept (hS.2.1 b hX.2.1 hX.2.2)
  refine va_calli (va_runS (As := [.ref b, .int (nI k)]) (rest := st) ⟨hF.1, hF.2.1, hF.2.2.1, hF.2.2.2.1, hF.2.2.2.2.1⟩ (mL_cell l D cI cZ b Ln k xs hL hk H.size) (cwS 2 hF.2.2.2.2.1 (jG_st mL_L_9 mT_L_cell mZ_L mC_L_cell) rfl rfl rfl dd_L_cell hRm) ⟨fun a U g mk q => ?_, fun U hU hW => ?_⟩ rfl rfl hl.1 rfl (lv_room hW) hd ⟨hF.2.2.2.2.2.2.2.2.2.1, hF.2.2.2.2.2.2.2.2.2.2.1⟩) hS (fun q h1 h2 => absurd h1 (Nat.not_lt.mpr h2)) (fun q h => hA q (Nat.le_trans hS.1 h)) (fun r' u t H1 locs1 ht hvm hp hB hz hk1 hS1 => ?_)
  · obtain ⟨q0, q1, qK, qN, qX, qb⟩ := q
    exact ⟨q0, q1, va_K.moved (u := U) (U := U.calling g mk a) (Vm.Alike.refl U.vm) qK, jn_same (u := U) (U := U.calling g mk a) rfl qN, va_X.moved (u := U) (U := U.calling g mk a) (Vm.Alike.refl U.vm) qX, qb⟩
  · refine ⟨rfl, by rw [hU], va_K.moved hW.alike hF.2.2.2.2.2.1, jn_warm hW hF.2.2.2.2.2.2.2.2.2.2.2, ?_, ?_⟩
    · rw [hU]; exact va_X.moved hW.alike hXH
    · exact Nat.lt_of_lt_of_le hX.2.1 hS.1
  · cases hp
    refine kk H1 locs1 ls (hP.kept (fun k x hx => ?_)) hD hS1 hl
    have hlt := (hP k x hx).lt
    exact hk1 x.1 hlt (Nat.not_le.mpr hlt)
end JS
theorem nest_in : ∀ w ∈ jNest, w ∈ lw_tbl := by
  intro w hw
  rw [List.mem_singleton.mp hw]
  have hm := List.mem_of_getElem? (show tables_1_2[102]? = some (Cond.methodLinkNest rP 59 yN_isWithin rN) from rfl)
  have h2 : Cond.methodLinkNest rP 59 yN_isWithin rN ∈ tables_1 := List.mem_append_right _ (List.mem_append_left _ hm)
  exact List.mem_append_right _ h2
theorem know {args : Array Value} {s : State} (hts : ∀ w ∈ lw_tbl, w.before args s = true) : ∃ (D : va_G) (cI cZ : ClassId), va_K D vwCl (jTys cI cZ) s := by
  have hg : ∀ w ∈ jG, w.before args s = true := fun w h => hts w (List.mem_filter.mp h).1
  obtain ⟨c0, i0, k0⟩ := u_known (ws := jG) (C := rN) (T := tN) (N := 7) hg inN (hg _ mN_N)
  obtain ⟨c1, i1, k1⟩ := u_known (ws := jG) (C := rP) (T := tP) (N := 13) hg inP (hg _ mN_P)
  obtain ⟨c2, i2, k2⟩ := u_known (ws := jG) (C := rW) (T := tW) (N := 3) hg inW (hg _ mN_W)
  obtain ⟨c3, i3, k3⟩ := u_known (ws := jG) (C := rT) (T := tT) (N := 17) hg inT (hg _ mN_T)
  obtain ⟨c4, i4, k4⟩ := u_known (ws := jG) (C := rB) (T := tB) (N := 2) hg inB (hg _ mN_B)
  obtain ⟨c5, i5, k5⟩ := u_known (ws := jG) (C := rK) (T := tK) (N := 12) hg inK (hg _ mN_K)
  obtain ⟨c6, i6, k6⟩ := u_known (ws := jG) (C := rM) (T := tM) (N := 42) hg inM (hg _ mN_M)
  obtain ⟨cI, kI, pI, a1, a2, a3⟩ := Cond.arrayClass_spec (hg _ mA_int)
  obtain ⟨cZ, kZ, pZ, b1, b2, b3⟩ := Cond.arrayClass_spec (hg _ mA_boolean)
  refine ⟨(fun k => [c0, c1, c2, c3, c4, c5, c6].getD k 0, fun k => [i0, i1, i2, i3, i4, i5, i6].getD k (fun _ => 0)), cI, cZ, fun c q hq => ?_, fun k q hq => ?_⟩
  · have hc : c < 7 := (List.getElem?_eq_some_iff.mp hq).1
    rcases (show c = 0 ∨ c = 1 ∨ c = 2 ∨ c = 3 ∨ c = 4 ∨ c = 5 ∨ c = 6 by omega) with rfl | rfl | rfl | rfl | rfl | rfl | rfl
    · cases hq; exact k0
    · cases hq; exact k1
    · cases hq; exact k2
    · cases hq; exact k3
    · cases hq; exact k4
    · cases hq; exact k5
    · cases hq; exact k6
  · have hc : k < 2 := (List.getElem?_eq_some_iff.mp hq).1
    rcases (show k = 0 ∨ k = 1 by omega) with rfl | rfl
    · cases hq; exact ⟨fun n z => ⟨fun k h => (by cases h), kI, a2, pI, a3⟩, a1⟩
    · cases hq; exact ⟨fun n z => ⟨fun k h => (by cases h), kZ, b2, pZ, b3⟩, b1⟩
set_option maxHeartbeats 8000000 in
set_option maxRecDepth 100000 in
theorem start_open (RR : jS → jS → Prop) (hRR : lawStep RR) (h0 : ∀ li de me : Int32, RR (s0C li de me) (s0M li de me)) {p : Program} {e : Env} {s : State} {m : MethodId} {below : List Frame} {meth : Method} {c : Code} (l : Launch) {b L : Nat} {xs : Nat → Int32} (hL : L ≤ 2051) (C0 : lw_At p s m meth c b L xs) : W p l e room_1 s m #[Value.ref b] below meth c s.heap [] 0 0 (lw_Z below #[Value.ref b] s) (entryFrame m ([Value.ref b] : List Value).toArray 4) := by
  obtain ⟨hx, hb, hr, hml, hown, hts, hX0, hbl, hlocks, -⟩ := C0
  obtain ⟨D, cI, cZ, hK⟩ := know hts
  rw [lg_entry_eq]
  let X : jX := (p, e, s, m, #[Value.ref b], below, meth, c, 0, 0, lw_Z below #[Value.ref b] s, (fun q => s.heap.size ≤ q), s.heap)
  have hF : jF D room_1 4 (jXc X 0 0) code rL (Cond.initialized rL :: jG) (jTys cI cZ) ret := ⟨hx, hb, hml, hown, fun w h => (List.mem_cons.mp h).elim (fun e => e ▸ hts _ (List.mem_filter.mp mZ_L).1) (fun h => hts _ (List.mem_filter.mp h).1), hK, hr, hlocks, fun q h => h, Nat.zero_le _, Nat.zero_le _, fun w h => va_Nw.of (by rw [List.mem_singleton.mp h]; rfl) (hts w (nest_in w h))⟩
  have hX : ∀ c2 s2, lX (jXc X c2 s2) b L xs := fun _ _ => ⟨hX0, hbl, Nat.not_le.mpr hbl⟩
  have hLn : L < 2 ^ 31 := by omega
  have hgo : jJ l D room_1 4 (jXc X 0 0) [] 0 [(0, .ref b)] [] := by
    refine jq_newO (pc := 0) hF (C := rN) (T := tN) (N := 7) (ci := 0) (fs := [.int 0, .null, .null, .null, .null, .null, .int 0]) inN tyN tkN mB_L_7 mN_N mZ_N rfl df_N (Nat.le_of_ble_eq_true rfl) (Nat.le_of_ble_eq_true rfl) dL_law_0 (fun h => ?_)
    have hF := jF_c hF (c2 := 1) (s2 := 7) (Nat.le_of_ble_eq_true rfl) (Nat.le_of_ble_eq_true rfl)
    refine jq_dup (pc := 3) hF dL_law_3 rfl ?_
    refine jq_aload_n (pc := 4) hF 0 dL_law_4 rfl ?_
    refine jq_iconst (pc := 5) hF dL_law_5 ic_0 ?_
    refine jq_cell (pc := 6) hF (hX _ _) hLn (by decide) ⟨(Nat.le_of_ble_eq_true rfl), (Nat.le_of_ble_eq_true rfl)⟩ (Nat.le_of_ble_eq_true rfl) dL_law_6 ?_
    refine jq_aload_n (pc := 9) hF 0 dL_law_9 rfl ?_
    refine jq_iconst (pc := 10) hF dL_law_10 ic_1 ?_
    refine jq_cell (pc := 11) hF (hX _ _) hLn (by decide) ⟨(Nat.le_of_ble_eq_true rfl), (Nat.le_of_ble_eq_true rfl)⟩ (Nat.le_of_ble_eq_true rfl) dL_law_11 ?_
    refine jq_aload_n (pc := 14) hF 0 dL_law_14 rfl ?_
    refine jq_iconst (pc := 15) hF dL_law_15 ic_2 ?_
    refine jq_cell (pc := 16) hF (hX _ _) hLn (by decide) ⟨(Nat.le_of_ble_eq_true rfl), (Nat.le_of_ble_eq_true rfl)⟩ (Nat.le_of_ble_eq_true rfl) dL_law_16 ?_
    refine jq_cK (pc := 19) hF (As := [.int (cellV L xs 0), .int (cellV L xs 1), .int (cellV L xs 2)]) (rest := [.ref h]) (wr := []) [0] [] rfl rfl rfl rfl rfl (by decide) (mN_init l D cI cZ h (cellV L xs 0) (cellV L xs 1) (cellV L xs 2)) (jG_n mC_N_init) rfl mZ_N mL_L_15 mI_N_init rfl dd_N_init.2 ⟨(Nat.le_of_ble_eq_true rfl), (Nat.le_of_ble_eq_true rfl)⟩ (Nat.le_of_ble_eq_true rfl) (Nat.le_of_ble_eq_true rfl) rfl rfl (Nat.le_of_ble_eq_true rfl) dL_law_19 (fun u => ?_)
    have hF := jF_c hF (c2 := 35) (s2 := 1148) (Nat.le_of_ble_eq_true rfl) (Nat.le_of_ble_eq_true rfl)
    let a : Nat → Nat := fun k => [h, (u 0), (u 10), (u 14), (u 28), (u 31), (u 1), (u 2), (u 3), (u 4), (u 5), (u 6), (u 7), (u 8), (u 9), (u 11), (u 12), (u 13), (u 15), (u 16), (u 17), (u 18), (u 19), (u 20), (u 21), (u 22), (u 23), (u 24), (u 25), (u 26), (u 27), (u 29), (u 30), (u 32), (u 33)].getD k 0
    refine jq_wsub (wC a cI cZ (s0C (cellV L xs 0) (cellV L xs 1) (cellV L xs 2))) [0, 1, 11, 15, 29, 32, 2, 3, 4, 5, 6, 7, 8, 9, 10, 12, 13, 14, 16, 17, 18, 19, 20, 21, 22, 23, 24, 25, 26, 27, 28, 30, 31, 33, 34] rfl rfl rfl ?_
    refine jq_astore_n (pc := 22) hF [(1, .ref h), (0, .ref b)] dL_law_22 (Nat.le_of_ble_eq_true rfl) rfl ?_
    refine jq_newO (pc := 23) hF (C := rM) (T := tM) (N := 42) (ci := 6) (fs := [.int 0, .int 0, .int 0, .int 0, .int 0, .null, .null, .null, .null, .null, .null, .null, .null, .null, .int 0, .null, .null, .null, .null, .int 0, .null, .null, .int 0, .null, .null, .null, .null, .null, .null, .null, .null, .null, .null, .null, .null, .null, .null, .int 0, .int 0, .int 0, .int 0, .int 0]) inM tyM tkM mB_L_18 mN_M mZ_M rfl df_M (Nat.le_of_ble_eq_true rfl) (Nat.le_of_ble_eq_true rfl) dL_law_23 (fun h2 => ?_)
    have hF := jF_c hF (c2 := 36) (s2 := 1190) (Nat.le_of_ble_eq_true rfl) (Nat.le_of_ble_eq_true rfl)
    refine jq_dup (pc := 26) hF dL_law_26 rfl ?_
    refine jq_aload_n (pc := 27) hF 1 dL_law_27 rfl ?_
    refine jq_iconst (pc := 28) hF dL_law_28 ic_0 ?_
    refine jq_cell (pc := 29) hF (hX _ _) hLn (by decide) ⟨(Nat.le_of_ble_eq_true rfl), (Nat.le_of_ble_eq_true rfl)⟩ (Nat.le_of_ble_eq_true rfl) dL_law_29 ?_
    refine jq_aload_n (pc := 32) hF 1 dL_law_32 rfl ?_
    refine jq_iconst (pc := 33) hF dL_law_33 ic_1 ?_
    refine jq_cell (pc := 34) hF (hX _ _) hLn (by decide) ⟨(Nat.le_of_ble_eq_true rfl), (Nat.le_of_ble_eq_true rfl)⟩ (Nat.le_of_ble_eq_true rfl) dL_law_34 ?_
    refine jq_aload_n (pc := 37) hF 1 dL_law_37 rfl ?_
    refine jq_iconst (pc := 38) hF dL_law_38 ic_2 ?_
    refine jq_cell (pc := 39) hF (hX _ _) hLn (by decide) ⟨(Nat.le_of_ble_eq_true rfl), (Nat.le_of_ble_eq_true rfl)⟩ (Nat.le_of_ble_eq_true rfl) dL_law_39 ?_
    refine jq_cK (pc := 42) hF (As := [.int (cellV L xs 0), .int (cellV L xs 1), .int (cellV L xs 2)]) (rest := [.ref h2]) (wr := wC a cI cZ (s0C (cellV L xs 0) (cellV L xs 1) (cellV L xs 2))) [35] (List.range 35) rfl rfl rfl rfl rfl (by decide) (mM_init l D cI cZ h2 (cellV L xs 0) (cellV L xs 1) (cellV L xs 2)) (jG_n mC_M_init) rfl mZ_M mL_L_20 mI_M_init rfl dd_M_init.2 ⟨(Nat.le_of_ble_eq_true rfl), (Nat.le_of_ble_eq_true rfl)⟩ (Nat.le_of_ble_eq_true rfl) (Nat.le_of_ble_eq_true rfl) rfl rfl (Nat.le_of_ble_eq_true rfl) dL_law_42 (fun v => ?_)
    have hF := jF_c hF (c2 := 65) (s2 := 2258) (Nat.le_of_ble_eq_true rfl) (Nat.le_of_ble_eq_true rfl)
    let q : Nat → Nat := fun k => [h2, (v 0), (v 1), (v 2), (v 3), (v 4), (v 5), (v 6), (v 7), (v 8), (v 9), (v 10), (v 11), (v 12), (v 13), (v 14), (v 15), (v 16), (v 17), (v 18), (v 19), (v 20), (v 21), (v 22), (v 23), (v 24), (v 25), (v 26), (v 27), (v 28)].getD k 0
    refine jq_w (wC a cI cZ (s0C (cellV L xs 0) (cellV L xs 1) (cellV L xs 2)) ++ wM q cI cZ (s0M (cellV L xs 0) (cellV L xs 1) (cellV L xs 2))) rfl ?_
    refine jq_astore_n (pc := 45) hF [(2, .ref h2), (1, .ref h), (0, .ref b)] dL_law_45 (Nat.le_of_ble_eq_true rfl) rfl ?_
    refine jq_iconst (pc := 46) hF dL_law_46 ic_3 ?_
    refine jq_istore_n (pc := 47) hF [(3, .int (nI 3)), (2, .ref h2), (1, .ref h), (0, .ref b)] dL_law_47 (Nat.le_of_ble_eq_true rfl) rfl ?_
    have hend : ∀ (wl : va_W) (pc : Nat) (L : List (Nat × Value)), decode code pc = .ok (.ireturn, 1) → jJ l D room_1 4 (jXc X 65 2258) wl pc L [.int 1] := fun wl pc L hd H locs ls hP hD hS hl => va_forget (fun q hq => hS.2.2 q hq) (lw_ret hx hb hr hlocks hd)
    exact law_loop (a := a) (q := q) RR hRR hF (hX _ _) hL hend 0 (by decide) (s0C (cellV L xs 0) (cellV L xs 1) (cellV L xs 2), s0M (cellV L xs 0) (cellV L xs 1) (cellV L xs 2)) (h0 _ _ _)
  exact hgo s.heap [] _ (fun k q h => (by cases h)) ⟨fun i j p q h => (by cases h), fun k q h => (by cases h)⟩ va_S.rf (lv_entry ([.ref b] : List Value) (Nat.le_of_ble_eq_true rfl))
