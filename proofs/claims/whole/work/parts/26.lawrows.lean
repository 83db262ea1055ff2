/-! decode rows of the law's own helper -/
theorem dL_cell_0 : decode cL_cell 0 = .ok (.iload_n 1, 1) := by decide +kernel
theorem dL_cell_1 : decode cL_cell 1 = .ok (.aload_n 0, 1) := by decide +kernel
theorem dL_cell_2 : decode cL_cell 2 = .ok (.arraylength, 1) := by decide +kernel
theorem dL_cell_3 : decode cL_cell 3 = .ok (.if_icmp .ge 9, 3) := by decide +kernel
theorem dL_cell_6 : decode cL_cell 6 = .ok (.aload_n 0, 1) := by decide +kernel
theorem dL_cell_7 : decode cL_cell 7 = .ok (.iload_n 1, 1) := by decide +kernel
theorem dL_cell_8 : decode cL_cell 8 = .ok (.iaload, 1) := by decide +kernel
theorem dL_cell_9 : decode cL_cell 9 = .ok (.goto 4, 3) := by decide +kernel
theorem dL_cell_12 : decode cL_cell 12 = .ok (.iconst 0, 1) := by decide +kernel
theorem dL_cell_13 : decode cL_cell 13 = .ok (.ireturn, 1) := by decide +kernel
/-! rows for the law: the script, calls into one of the two worlds -/
section JL
variable {l : Launch} {D : va_G} {R : Room} {nL : Nat} {X : jX} {cc : ByteArray} {own : String} {cw : Cond} {cI cZ : ClassId} {ret : Option FieldType} {wl : va_W} {pc : Nat} {L : List (Nat × Value)} {st : List Value} {b Ln : Nat} {xs : Nat → Int32}
def lX (X : jX) (b Ln : Nat) (xs : Nat → Int32) : Prop := va_X b Ln xs (X.2.2.1) (X.2.2.2.2.2.2.2.2.2.2.2.2) ∧ b < (X.2.2.2.2.2.2.2.2.2.2.2.2).size ∧ ¬ (X.2.2.2.2.2.2.2.2.2.2.2.1) b
theorem jq_sld (hF : jF D R nL X cc own (cw :: jG) (jTys cI cZ) ret) (hX : lX X b Ln xs) {i : Nat} (hL : Ln < 2 ^ 31) (hi : i < Ln) (hd : decode cc pc = .ok (.iaload, 1)) (k : jJ l D R nL X wl (pc + 1) L (.int (xs i) :: st)) : jJ l D R nL X wl pc L (.int (nI i) :: .ref b :: st) :=
  fun H locs ls hP hD hS hl => va_sld hF.1 hF.2.1 hX.1 hX.2.1 hX.2.2 hS (vp_in_nI hi hL) hd (by rw [nI_clamp (Nat.lt_trans hi hL)]; exact k H locs ls hP hD hS hl)
theorem jq_slen (hF : jF D R nL X cc own (cw :: jG) (jTys cI cZ) ret) (hX : lX X b Ln xs) (hd : decode cc pc = .ok (.arraylength, 1)) (k : jJ l D R nL X wl (pc + 1) L (.int (nI Ln) :: st)) : jJ l D R nL X wl pc L (.ref b :: st) :=
  fun H locs ls hP hD hS hl => va_slen hF.1 hF.2.1 hX.1 hX.2.1 hX.2.2 hS hd (k H locs ls hP hD hS hl)
theorem jq_astore_n (hF : jF D R nL X cc own (cw :: jG) (jTys cI cZ) ret) {i : Fin 4} {x : Nat} (L' : List (Nat × Value)) (hd : decode cc pc = .ok (.astore_n i, 1)) (hn : (i : Nat) < nL) (hL : L' = ((i : Nat), Value.ref x) :: L.filter (fun q => !(q.1 == (i : Nat)) && !(q.1 + 1 == (i : Nat) && q.2.category == 2))) (k : jJ l D R nL X wl (pc + 1) L' st) : jJ l D R nL X wl pc L (.ref x :: st) :=
  fun H locs ls hP hD hS hl => lv_astore_n hF.1 hF.2.1 hd rfl hl hn hL.symm (fun ls' hl' => k H locs ls' hP hD hS hl')
theorem jq_cL (hF : jF D R nL X cc own (cw :: jG) (jTys cI cZ) ret) {y : MethodName} {ws' wsT : List Cond} {rm' : Room} {idx maxL' n b0 : Nat} {bytes : ByteArray} {rt : Option FieldType} {As rest : List Value} {wc wr w1 : va_W} {C : String} {ci : Nat} {fs : List Value} {T : u_T} {N : Nat} {r : Int32} (isC isR : List Nat) (hC1 : isC.filterMap (fun i => wl[i]?) = wc) (hC : isC.map (fun i => wl[i]?) = wc.map some) (hCn : va_nd isC = true) (hR : isR.map (fun i => wl[i]?) = wr.map some) (hnd : va_nd isR = true) (hdis : ∀ i ∈ isR, i ∉ isC)
    (hM : jI l y wsT rm' D (jTys cI cZ) (.ref b0 :: As) wc w1 r) (hG : GoodIn (cw :: jG) (wsV own idx C y wsT)) (hw : wsT = Cond.code y bytes maxL' rt :: ws') (hrc : rm'.cells = 0) (hrs : rm'.slots = 0) (hdd : y.cls = C ∧ y.cls ≠ "java/lang/invoke/MethodHandle" ∧ y.cls ≠ "java/lang/invoke/VarHandle" ∧ (parseMethodDescriptor y.desc).map (fun d => d.parameters.length) = some n) (hRm : rm'.frames + 1 ≤ R.frames ∧ 8 + (maxL' + 11) + rm'.locals ≤ R.locals) (q0 : Nat) (he : wl[q0]? = some (b0, .inr (ci, fs))) (hc : vwCl[ci]? = some (C, T, N)) (hn : As.length = n) (hst : st = As.reverse ++ .ref b0 :: rest) (hW : (rest.map fun v => v.category).sum ≤ 8) (hd : decode cc pc = .ok (.invokevirtual idx, 3)) (k : jJ l D R nL X (wr ++ w1) (pc + 3) L (.int r :: rest)) : jJ l D R nL X wl pc L st := by
  intro H locs ls hP hD hS hl
  have hA := hF.2.2.2.2.2.2.2.2.1
  have hPc := hP.sub (ws' := wc) isC hC1
  have hDc := hD.sub (ws' := wc) isC hCn hC
  have hFc := va_free (wc := wc) hD hS hA isC hC
  refine va_calli (va_runV (As := As) (rest := rest) ⟨hF.1, hF.2.1, hF.2.2.1, hF.2.2.2.1, hF.2.2.2.2.1⟩ (hM H.size) (cwV n hF.2.2.2.2.1 hG hw hrc hrs hdd hRm) ⟨jq_blind, va_recv hF.2.2.2.2.2.1 hP hc he, fun U hU hW => ⟨rfl, by rw [hU], by rw [hU]; exact hPc, va_K.moved hW.alike hF.2.2.2.2.2.1, hDc.weaken (fun _ _ _ _ => trivial), jn_warm hW hF.2.2.2.2.2.2.2.2.2.2.2⟩⟩ rfl hn hl.1 hst (lv_room hW) hd ⟨hF.2.2.2.2.2.2.2.2.2.1, hF.2.2.2.2.2.2.2.2.2.2.1⟩) hS (fun q _ h => hFc q h) hFc (fun r' u t H1 locs1 ht hvm hp hB hz hk hS1 => ?_)
  cases hp
  obtain ⟨hP1, hK1, hD1⟩ := hB
  rw [ht] at hP1
  obtain ⟨hP2, hD2⟩ := va_join (wr := wr) (w1 := w1) hP hD isC isR hC hR hnd hdis hk hFc hP1 hD1
  exact k H1 locs1 ls hP2 hD2 hS1 hl
end JL
def cellV (Ln : Nat) (xs : Nat → Int32) (k : Nat) : Int32 := if Ln ≤ k then nI 0 else xs k
theorem mL_cell (l : Launch) (D : va_G) (cI cZ : ClassId) (b Ln k : Nat) (xs : Nat → Int32) (hL : Ln < 2 ^ 31) (hk : k < 2 ^ 31) : ∀ sz : Nat, Met l yL_cell w_L_cell (rmD 0) (va_Pc [.ref b, .int (nI k)] (fun U => U.heap.size = sz ∧ va_K D vwCl (jTys cI cZ) U ∧ (∀ w ∈ jNest, va_Nw w U) ∧ va_X b Ln xs U U.heap ∧ b < sz)) (va_Qi (fun r (_ : Unit) => r = cellV Ln xs k) (fun _ _ => True) (fun q => sz ≤ q)) 0 0 (fun q => sz ≤ q) := by
  intro sz
  refine Met.ofW (cc := cL_cell) (maxL := 2) (ret := some .int) (by decide) rfl ?_
  intro p e s m args below meth c s₁ B hml hv
  obtain ⟨rfl, hsz, hK, hNw, hX, hb⟩ := hv
  subst hsz
  rw [lg_entry_eq]
  let X : jX := (p, e, s, m, ([.ref b, .int (nI k)] : List Value).toArray, below, meth, c, 0, 0, MQ below (va_Qi (fun r (_ : Unit) => r = cellV Ln xs k) (fun _ _ => True) (fun q => s.heap.size ≤ q)) ([.ref b, .int (nI k)] : List Value).toArray s 0 0 (fun q => s.heap.size ≤ q), (fun q => s.heap.size ≤ q), s.heap)
  have hF : jF D (rmD 0) 2 X cL_cell rL w_L_cell (jTys cI cZ) (some .int) := ⟨B.exec, B.bytes, hml, findClass_of_methodNamed B.named, atoms_spec (ws := w_L_cell) B.pre, hK, B.returns, B.notSynchronized, fun q h => h, Nat.zero_le _, Nat.zero_le _, hNw⟩
  have hXX : lX X b Ln xs := ⟨hX, hb, Nat.not_le.mpr hb⟩
  have hr : ∀ (pc : Nat) (L : List (Nat × Value)), decode cL_cell pc = .ok (.ireturn, 1) → jJ l D (rmD 0) 2 X [] pc L [.int (cellV Ln xs k)] := by
    intro pc L hd H locs ls hP1 hD1 hS1 hl1
    exact W.zret (ty := .int) B.exec B.bytes B.returns rfl (fun t ht hW => ⟨⟨_, (), rfl, rfl, trivial⟩, hS1.F ht⟩) hS1.2.2 hd B.notSynchronized
  have hgo : jJ l D (rmD 0) 2 X [] 0 [(0, .ref b), (1, .int (nI k))] [] := by
    refine jq_iload_n (pc := 0) hF 1 dL_cell_0 rfl ?_
    refine jq_aload_n (pc := 1) hF 0 dL_cell_1 rfl ?_
    refine jq_slen (pc := 2) hF hXX dL_cell_2 ?_
    refine jq_icmp_geN (pc := 3) hF 12 hk hL dL_cell_3 rfl (fun h => ?_) (fun h => ?_)
    · refine jq_iconst (pc := 12) hF dL_cell_12 ic_0 ?_
      exact jq_at (hr 13 _ dL_cell_13) rfl rfl rfl (by rw [cellV, if_pos h])
    · refine jq_aload_n (pc := 6) hF 0 dL_cell_6 rfl ?_
      refine jq_iload_n (pc := 7) hF 1 dL_cell_7 rfl ?_
      refine jq_sld (pc := 8) hF hXX hL h dL_cell_8 ?_
      refine jq_goto (pc := 9) hF 13 dL_cell_9 rfl ?_
      exact jq_at (hr 13 _ dL_cell_13) rfl rfl rfl (by rw [cellV, if_neg (Nat.not_le.mpr h)])
  exact hgo s.heap [] _ (fun k q h => (by cases h)) ⟨fun i j p q h => (by cases h), fun k q h => (by cases h)⟩ va_S.rf (lv_entry ([.ref b, .int (nI k)] : List Value) (Nat.le_of_ble_eq_true rfl))
