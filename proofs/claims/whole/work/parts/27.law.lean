/-- class and reference answer alike in related states, and stay related -/
def lawStep (RR : jS → jS → Prop) : Prop := ∀ σ τ : jS, RR σ τ → cInv σ ∧ mInv τ
  ∧ (∀ x0 : Int32, (if cBridgeB σ x0 = true then σ 1 0 else -1) = (if mBridgeB τ x0 = true then (mLook (mAddB τ x0) false) 0 4 - nI 1 else -1) ∧ RR (if cBridgeB σ x0 = true then cSettle (cAddBridge σ x0) else σ) (if mBridgeB τ x0 = true then mLook (mAddB τ x0) false else τ))
  ∧ (∀ x0 : Int32, ∀ x1 : Int32, ∀ x2 : Int32, (if cWireB σ x0 x1 x2 = true then σ 1 1 else -1) = (if mWireB τ x0 x1 x2 = true then (mLook (mAddW τ x0 x1 x2) false) 0 5 - nI 1 else -1) ∧ RR (if cWireB σ x0 x1 x2 = true then cSettle (cAddWire σ x0 x1 x2) else σ) (if mWireB τ x0 x1 x2 = true then mLook (mAddW τ x0 x1 x2) false else τ))
  ∧ (∀ x0 : Int32, ∀ x1 : Int32, (if cHostB σ x0 x1 = true then σ 1 2 else -1) = (if mHostB τ x0 x1 = true then (mLook (mAddH τ x0 x1) false) 0 6 - nI 1 else -1) ∧ RR (if cHostB σ x0 x1 = true then cSettle (cAddHost σ x0 x1) else σ) (if mHostB τ x0 x1 = true then mLook (mAddH τ x0 x1) false else τ))
  ∧ (∀ x0 : Int32, (bI (cRouterB σ x0)) = (bI (mRouterB τ x0)) ∧ RR (if cRouterB σ x0 = true then cSettle (cAddRouter σ x0) else σ) (if mRouterB τ x0 = true then mLook (mAddR τ x0) false else τ))
  ∧ (∀ x0 : Int32, ∀ x1 : Int32, (bI (cAccessB σ x0 x1)) = (bI (mAccessB τ x0 x1)) ∧ RR (if cAccessB σ x0 x1 = true then cAccess σ x0 x1 else σ) (if mAccessB τ x0 x1 = true then mAccess τ x0 x1 else τ))
  ∧ (∀ x0 : Int32, ∀ x1 : Int32, ∀ x2 : Int32, (bI (cTrunkB σ x0 x1 x2)) = (bI (mTrunkB τ x0 x1 x2)) ∧ RR (if cTrunkB σ x0 x1 x2 = true then cTrunk σ x0 x1 x2 else σ) (if mTrunkB τ x0 x1 x2 = true then mTrunk τ x0 x1 x2 else τ))
  ∧ (∀ x0 : Int32, ∀ x1 : Bool, (bI (cCutB σ x0 x1)) = (bI (mCutB τ x0 x1)) ∧ RR (if cCutB σ x0 x1 = true then cCutS σ x0 x1 else σ) (if mCutB τ x0 x1 = true then mCutS τ x0 x1 else τ))
  ∧ (∀ x0 : Int32, (if cWithin x0 (nI 0) (nI 60) = true then (cTicks σ (x0).toNatClampNeg) 3 2 else -1) = (if mTickB x0 = true then (mTicks τ (x0).toNatClampNeg) 0 3 else -1) ∧ RR (if cWithin x0 (nI 0) (nI 60) = true then cTicks σ (x0).toNatClampNeg else σ) (if mTickB x0 = true then mTicks τ (x0).toNatClampNeg else τ))
  ∧ (∀ x0 : Int32, (if cIsPlace σ x0 = true then σ 25 (x0).toNatClampNeg else -1) = (if mIsPlace τ x0 = true then mRole τ (x0).toNatClampNeg else -1) ∧ RR (σ) (τ))
  ∧ (∀ x0 : Int32, (if cIsPlace σ x0 = true then σ 27 (x0).toNatClampNeg else -1) = (if mIsPlace τ x0 = true then mState τ (x0).toNatClampNeg else -1) ∧ RR (σ) (τ))
  ∧ (∀ x0 : Int32, (if cIsBridge σ x0 = true then σ 22 (x0).toNatClampNeg * nI 2048 + σ 23 (x0).toNatClampNeg * nI 2 + bI (cMarked σ (x0).toNatClampNeg) else -1) = (if mIsBr τ x0 = true then mRootOf τ (x0).toNatClampNeg * nI 2048 + mDist τ (x0).toNatClampNeg * nI 2 + bI (mMarked τ (x0).toNatClampNeg) else -1) ∧ RR (σ) (τ))
  ∧ (∀ x0 : Int32, ∀ x1 : Int32, (if cHeldB σ x0 x1 = true then σ 18 (6 * (x0).toNatClampNeg + (x1).toNatClampNeg) else -1) = (if mHeldB τ x0 = true then mHeldV τ (x0).toNatClampNeg x1 else -1) ∧ RR (σ) (τ))
  ∧ (∀ x0 : Int32, ∀ x1 : Int32, ∀ x2 : Int32, (if cLearnedB σ x0 x1 x2 = true then cPort σ (x0).toNatClampNeg (x1).toNatClampNeg (x2).toNatClampNeg else -1) = (if mLearnedB τ x0 x1 x2 = true then τ 26 ((4 * (x0).toNatClampNeg + (x1).toNatClampNeg) * 7 + (x2).toNatClampNeg) - nI 1 else -1) ∧ RR (σ) (τ))
  ∧ (∀ x0 : Int32, (if cIsBridge σ x0 = true then nI (cCountN σ (x0).toNatClampNeg 28) else -1) = (if mIsBr τ x0 = true then nI (mCountN τ (x0).toNatClampNeg 28) else -1) ∧ RR (σ) (τ))
  ∧ (∀ x0 : Int32, ∀ x1 : Int32, (if cSendB σ x0 x1 = true then (cCarry (sU σ 5 5 (nI 0)) x0 x1 (σ 10 (x0).toNatClampNeg) (-1)) 5 4 else -1) = (if mSendB τ x0 x1 = true then (mFrame (sU τ 0 11 (nI 0)) (τ 14 (x0).toNatClampNeg) (-1) (x0).toNatClampNeg x1) 0 10 else -1) ∧ RR (if cSendB σ x0 x1 = true then cCarry (sU σ 5 5 (nI 0)) x0 x1 (σ 10 (x0).toNatClampNeg) (-1) else σ) (if mSendB τ x0 x1 = true then mFrame (sU τ 0 11 (nI 0)) (τ 14 (x0).toNatClampNeg) (-1) (x0).toNatClampNeg x1 else τ))
  ∧ (∀ x0 : Int32, ∀ x1 : Int32, ∀ x2 : Int32, (if cAskB σ x0 x1 = true then nI (cAskF σ (x0).toNatClampNeg (x1).toNatClampNeg).2 else -1) = (if mAskB τ x0 x1 = true then (mAskF τ (x0).toNatClampNeg (x1).toNatClampNeg).2 else -1) ∧ RR (if cAskB σ x0 x1 = true then cAskSt σ (x0).toNatClampNeg (x1).toNatClampNeg x2 else σ) (if mAskB τ x0 x1 = true then mAskSt τ (x0).toNatClampNeg (x1).toNatClampNeg x2 else τ))
  ∧ ((σ 0 1) = (τ 0 12) ∧ RR (σ) (τ))
  ∧ ((σ 5 5) = (τ 0 11) ∧ RR (σ) (τ))
theorem lcC1 (a b : Nat → Nat) (cI cZ : ClassId) (σ τ : jS) : (List.range 35).filterMap (fun i => (wC a cI cZ σ ++ wM b cI cZ τ)[i]?) = wC a cI cZ σ := rfl
theorem lcC2 (a b : Nat → Nat) (cI cZ : ClassId) (σ τ : jS) : (List.range 35).map (fun i => (wC a cI cZ σ ++ wM b cI cZ τ)[i]?) = (wC a cI cZ σ).map some := rfl
theorem lcC3 (a b : Nat → Nat) (cI cZ : ClassId) (σ τ : jS) : ((List.range 30).map (· + 35)).map (fun i => (wC a cI cZ σ ++ wM b cI cZ τ)[i]?) = (wM b cI cZ τ).map some := rfl
theorem lcM1 (a b : Nat → Nat) (cI cZ : ClassId) (σ τ : jS) : (List.range 30).filterMap (fun i => (wM b cI cZ τ ++ wC a cI cZ σ)[i]?) = wM b cI cZ τ := rfl
theorem lcM2 (a b : Nat → Nat) (cI cZ : ClassId) (σ τ : jS) : (List.range 30).map (fun i => (wM b cI cZ τ ++ wC a cI cZ σ)[i]?) = (wM b cI cZ τ).map some := rfl
theorem lcM3 (a b : Nat → Nat) (cI cZ : ClassId) (σ τ : jS) : ((List.range 35).map (· + 30)).map (fun i => (wM b cI cZ τ ++ wC a cI cZ σ)[i]?) = (wC a cI cZ σ).map some := rfl
theorem lw_cmp {Ln i : Nat} (hL : Ln < 2 ^ 30) (hi : i < 2 ^ 30) : nI Ln - nI 4 < nI i ↔ Ln < i + 4 := by
  rw [Int32.lt_iff_toInt_lt, pk_sub_toInt hL (by decide), nI_toInt (by omega)]
  omega
theorem dL_law_0 : decode code 0 = .ok (.new 7, 3) := by decide +kernel
theorem dL_law_3 : decode code 3 = .ok (.dup, 1) := by decide +kernel
theorem dL_law_4 : decode code 4 = .ok (.aload_n 0, 1) := by decide +kernel
theorem dL_law_5 : decode code 5 = .ok (.iconst 0, 1) := by decide +kernel
theorem dL_law_6 : decode code 6 = .ok (.invokestatic 9, 3) := by decide +kernel
theorem dL_law_9 : decode code 9 = .ok (.aload_n 0, 1) := by decide +kernel
theorem dL_law_10 : decode code 10 = .ok (.iconst 1, 1) := by decide +kernel
theorem dL_law_11 : decode code 11 = .ok (.invokestatic 9, 3) := by decide +kernel
theorem dL_law_14 : decode code 14 = .ok (.aload_n 0, 1) := by decide +kernel
theorem dL_law_15 : decode code 15 = .ok (.iconst 2, 1) := by decide +kernel
theorem dL_law_16 : decode code 16 = .ok (.invokestatic 9, 3) := by decide +kernel
theorem dL_law_19 : decode code 19 = .ok (.invokespecial 15, 3) := by decide +kernel
theorem dL_law_22 : decode code 22 = .ok (.astore_n 1, 1) := by decide +kernel
theorem dL_law_23 : decode code 23 = .ok (.new 18, 3) := by decide +kernel
theorem dL_law_26 : decode code 26 = .ok (.dup, 1) := by decide +kernel
theorem dL_law_27 : decode code 27 = .ok (.aload_n 0, 1) := by decide +kernel
theorem dL_law_28 : decode code 28 = .ok (.iconst 0, 1) := by decide +kernel
theorem dL_law_29 : decode code 29 = .ok (.invokestatic 9, 3) := by decide +kernel
theorem dL_law_32 : decode code 32 = .ok (.aload_n 0, 1) := by decide +kernel
theorem dL_law_33 : decode code 33 = .ok (.iconst 1, 1) := by decide +kernel
theorem dL_law_34 : decode code 34 = .ok (.invokestatic 9, 3) := by decide +kernel
theorem dL_law_37 : decode code 37 = .ok (.aload_n 0, 1) := by decide +kernel
theorem dL_law_38 : decode code 38 = .ok (.iconst 2, 1) := by decide +kernel
theorem dL_law_39 : decode code 39 = .ok (.invokestatic 9, 3) := by decide +kernel
theorem dL_law_42 : decode code 42 = .ok (.invokespecial 20, 3) := by decide +kernel
theorem dL_law_45 : decode code 45 = .ok (.astore_n 2, 1) := by decide +kernel
theorem dL_law_46 : decode code 46 = .ok (.iconst 3, 1) := by decide +kernel
theorem dL_law_47 : decode code 47 = .ok (.istore_n 3, 1) := by decide +kernel
theorem dL_law_48 : decode code 48 = .ok (.iload_n 3, 1) := by decide +kernel
theorem dL_law_49 : decode code 49 = .ok (.aload_n 0, 1) := by decide +kernel
theorem dL_law_50 : decode code 50 = .ok (.arraylength, 1) := by decide +kernel
theorem dL_law_51 : decode code 51 = .ok (.iconst 4, 1) := by decide +kernel
theorem dL_law_52 : decode code 52 = .ok (.isub, 1) := by decide +kernel
theorem dL_law_53 : decode code 53 = .ok (.if_icmp .gt 641, 3) := by decide +kernel
theorem dL_law_56 : decode code 56 = .ok (.aload_n 0, 1) := by decide +kernel
theorem dL_law_57 : decode code 57 = .ok (.iload_n 3, 1) := by decide +kernel
theorem dL_law_58 : decode code 58 = .ok (.iaload, 1) := by decide +kernel
theorem dL_law_59 : decode code 59 = .ok (.bipush 31, 2) := by decide +kernel
theorem dL_law_61 : decode code 61 = .ok (.iand, 1) := by decide +kernel
theorem dL_law_62 : decode code 62 = .ok (.tableswitch 626 0 17 #[86, 109, 152, 185, 208, 241, 284, 333, 356, 379, 402, 425, 458, 501, 524, 557, 600, 613], 86) := by decide +kernel
theorem dL_law_148 : decode code 148 = .ok (.aload_n 1, 1) := by decide +kernel
theorem dL_law_149 : decode code 149 = .ok (.aload_n 0, 1) := by decide +kernel
theorem dL_law_150 : decode code 150 = .ok (.iload_n 3, 1) := by decide +kernel
theorem dL_law_151 : decode code 151 = .ok (.iconst 1, 1) := by decide +kernel
theorem dL_law_152 : decode code 152 = .ok (.iadd, 1) := by decide +kernel
theorem dL_law_153 : decode code 153 = .ok (.iaload, 1) := by decide +kernel
theorem dL_law_154 : decode code 154 = .ok (.invokevirtual 21, 3) := by decide +kernel
theorem dL_law_157 : decode code 157 = .ok (.aload_n 2, 1) := by decide +kernel
theorem dL_law_158 : decode code 158 = .ok (.aload_n 0, 1) := by decide +kernel
theorem dL_law_159 : decode code 159 = .ok (.iload_n 3, 1) := by decide +kernel
theorem dL_law_160 : decode code 160 = .ok (.iconst 1, 1) := by decide +kernel
theorem dL_law_161 : decode code 161 = .ok (.iadd, 1) := by decide +kernel
theorem dL_law_162 : decode code 162 = .ok (.iaload, 1) := by decide +kernel
theorem dL_law_163 : decode code 163 = .ok (.invokevirtual 25, 3) := by decide +kernel
theorem dL_law_166 : decode code 166 = .ok (.if_icmp .eq 522, 3) := by decide +kernel
theorem dL_law_169 : decode code 169 = .ok (.iconst 0, 1) := by decide +kernel
theorem dL_law_170 : decode code 170 = .ok (.ireturn, 1) := by decide +kernel
theorem dL_law_171 : decode code 171 = .ok (.aload_n 1, 1) := by decide +kernel
theorem dL_law_172 : decode code 172 = .ok (.aload_n 0, 1) := by decide +kernel
theorem dL_law_173 : decode code 173 = .ok (.iload_n 3, 1) := by decide +kernel
theorem dL_law_174 : decode code 174 = .ok (.iconst 1, 1) := by decide +kernel
theorem dL_law_175 : decode code 175 = .ok (.iadd, 1) := by decide +kernel
theorem dL_law_176 : decode code 176 = .ok (.iaload, 1) := by decide +kernel
theorem dL_law_177 : decode code 177 = .ok (.aload_n 0, 1) := by decide +kernel
theorem dL_law_178 : decode code 178 = .ok (.iload_n 3, 1) := by decide +kernel
theorem dL_law_179 : decode code 179 = .ok (.iconst 2, 1) := by decide +kernel
theorem dL_law_180 : decode code 180 = .ok (.iadd, 1) := by decide +kernel
theorem dL_law_181 : decode code 181 = .ok (.iaload, 1) := by decide +kernel
theorem dL_law_182 : decode code 182 = .ok (.aload_n 0, 1) := by decide +kernel
theorem dL_law_183 : decode code 183 = .ok (.iload_n 3, 1) := by decide +kernel
theorem dL_law_184 : decode code 184 = .ok (.iconst 3, 1) := by decide +kernel
theorem dL_law_185 : decode code 185 = .ok (.iadd, 1) := by decide +kernel
theorem dL_law_186 : decode code 186 = .ok (.iaload, 1) := by decide +kernel
theorem dL_law_187 : decode code 187 = .ok (.invokevirtual 26, 3) := by decide +kernel
theorem dL_law_190 : decode code 190 = .ok (.aload_n 2, 1) := by decide +kernel
theorem dL_law_191 : decode code 191 = .ok (.aload_n 0, 1) := by decide +kernel
theorem dL_law_192 : decode code 192 = .ok (.iload_n 3, 1) := by decide +kernel
theorem dL_law_193 : decode code 193 = .ok (.iconst 1, 1) := by decide +kernel
theorem dL_law_194 : decode code 194 = .ok (.iadd, 1) := by decide +kernel
theorem dL_law_195 : decode code 195 = .ok (.iaload, 1) := by decide +kernel
theorem dL_law_196 : decode code 196 = .ok (.aload_n 0, 1) := by decide +kernel
theorem dL_law_197 : decode code 197 = .ok (.iload_n 3, 1) := by decide +kernel
theorem dL_law_198 : decode code 198 = .ok (.iconst 2, 1) := by decide +kernel
theorem dL_law_199 : decode code 199 = .ok (.iadd, 1) := by decide +kernel
theorem dL_law_200 : decode code 200 = .ok (.iaload, 1) := by decide +kernel
theorem dL_law_201 : decode code 201 = .ok (.aload_n 0, 1) := by decide +kernel
theorem dL_law_202 : decode code 202 = .ok (.iload_n 3, 1) := by decide +kernel
theorem dL_law_203 : decode code 203 = .ok (.iconst 3, 1) := by decide +kernel
theorem dL_law_204 : decode code 204 = .ok (.iadd, 1) := by decide +kernel
theorem dL_law_205 : decode code 205 = .ok (.iaload, 1) := by decide +kernel
theorem dL_law_206 : decode code 206 = .ok (.invokevirtual 30, 3) := by decide +kernel
theorem dL_law_209 : decode code 209 = .ok (.if_icmp .eq 479, 3) := by decide +kernel
theorem dL_law_212 : decode code 212 = .ok (.iconst 0, 1) := by decide +kernel
theorem dL_law_213 : decode code 213 = .ok (.ireturn, 1) := by decide +kernel
theorem dL_law_214 : decode code 214 = .ok (.aload_n 1, 1) := by decide +kernel
theorem dL_law_215 : decode code 215 = .ok (.aload_n 0, 1) := by decide +kernel
theorem dL_law_216 : decode code 216 = .ok (.iload_n 3, 1) := by decide +kernel
theorem dL_law_217 : decode code 217 = .ok (.iconst 1, 1) := by decide +kernel
theorem dL_law_218 : decode code 218 = .ok (.iadd, 1) := by decide +kernel
theorem dL_law_219 : decode code 219 = .ok (.iaload, 1) := by decide +kernel
theorem dL_law_220 : decode code 220 = .ok (.aload_n 0, 1) := by decide +kernel
theorem dL_law_221 : decode code 221 = .ok (.iload_n 3, 1) := by decide +kernel
theorem dL_law_222 : decode code 222 = .ok (.iconst 2, 1) := by decide +kernel
theorem dL_law_223 : decode code 223 = .ok (.iadd, 1) := by decide +kernel
theorem dL_law_224 : decode code 224 = .ok (.iaload, 1) := by decide +kernel
theorem dL_law_225 : decode code 225 = .ok (.invokevirtual 31, 3) := by decide +kernel
theorem dL_law_228 : decode code 228 = .ok (.aload_n 2, 1) := by decide +kernel
theorem dL_law_229 : decode code 229 = .ok (.aload_n 0, 1) := by decide +kernel
theorem dL_law_230 : decode code 230 = .ok (.iload_n 3, 1) := by decide +kernel
theorem dL_law_231 : decode code 231 = .ok (.iconst 1, 1) := by decide +kernel
theorem dL_law_232 : decode code 232 = .ok (.iadd, 1) := by decide +kernel
theorem dL_law_233 : decode code 233 = .ok (.iaload, 1) := by decide +kernel
theorem dL_law_234 : decode code 234 = .ok (.aload_n 0, 1) := by decide +kernel
theorem dL_law_235 : decode code 235 = .ok (.iload_n 3, 1) := by decide +kernel
theorem dL_law_236 : decode code 236 = .ok (.iconst 2, 1) := by decide +kernel
theorem dL_law_237 : decode code 237 = .ok (.iadd, 1) := by decide +kernel
theorem dL_law_238 : decode code 238 = .ok (.iaload, 1) := by decide +kernel
theorem dL_law_239 : decode code 239 = .ok (.invokevirtual 35, 3) := by decide +kernel
theorem dL_law_242 : decode code 242 = .ok (.if_icmp .eq 446, 3) := by decide +kernel
theorem dL_law_245 : decode code 245 = .ok (.iconst 0, 1) := by decide +kernel
theorem dL_law_246 : decode code 246 = .ok (.ireturn, 1) := by decide +kernel
theorem dL_law_247 : decode code 247 = .ok (.aload_n 1, 1) := by decide +kernel
theorem dL_law_248 : decode code 248 = .ok (.aload_n 0, 1) := by decide +kernel
theorem dL_law_249 : decode code 249 = .ok (.iload_n 3, 1) := by decide +kernel
theorem dL_law_250 : decode code 250 = .ok (.iconst 1, 1) := by decide +kernel
theorem dL_law_251 : decode code 251 = .ok (.iadd, 1) := by decide +kernel
theorem dL_law_252 : decode code 252 = .ok (.iaload, 1) := by decide +kernel
theorem dL_law_253 : decode code 253 = .ok (.invokevirtual 36, 3) := by decide +kernel
theorem dL_law_256 : decode code 256 = .ok (.aload_n 2, 1) := by decide +kernel
theorem dL_law_257 : decode code 257 = .ok (.aload_n 0, 1) := by decide +kernel
theorem dL_law_258 : decode code 258 = .ok (.iload_n 3, 1) := by decide +kernel
theorem dL_law_259 : decode code 259 = .ok (.iconst 1, 1) := by decide +kernel
theorem dL_law_260 : decode code 260 = .ok (.iadd, 1) := by decide +kernel
theorem dL_law_261 : decode code 261 = .ok (.iaload, 1) := by decide +kernel
theorem dL_law_262 : decode code 262 = .ok (.invokevirtual 40, 3) := by decide +kernel
theorem dL_law_265 : decode code 265 = .ok (.if_icmp .eq 423, 3) := by decide +kernel
theorem dL_law_268 : decode code 268 = .ok (.iconst 0, 1) := by decide +kernel
theorem dL_law_269 : decode code 269 = .ok (.ireturn, 1) := by decide +kernel
theorem dL_law_270 : decode code 270 = .ok (.aload_n 1, 1) := by decide +kernel
theorem dL_law_271 : decode code 271 = .ok (.aload_n 0, 1) := by decide +kernel
theorem dL_law_272 : decode code 272 = .ok (.iload_n 3, 1) := by decide +kernel
theorem dL_law_273 : decode code 273 = .ok (.iconst 1, 1) := by decide +kernel
theorem dL_law_274 : decode code 274 = .ok (.iadd, 1) := by decide +kernel
theorem dL_law_275 : decode code 275 = .ok (.iaload, 1) := by decide +kernel
theorem dL_law_276 : decode code 276 = .ok (.aload_n 0, 1) := by decide +kernel
theorem dL_law_277 : decode code 277 = .ok (.iload_n 3, 1) := by decide +kernel
theorem dL_law_278 : decode code 278 = .ok (.iconst 2, 1) := by decide +kernel
theorem dL_law_279 : decode code 279 = .ok (.iadd, 1) := by decide +kernel
theorem dL_law_280 : decode code 280 = .ok (.iaload, 1) := by decide +kernel
theorem dL_law_281 : decode code 281 = .ok (.invokevirtual 41, 3) := by decide +kernel
theorem dL_law_284 : decode code 284 = .ok (.aload_n 2, 1) := by decide +kernel
theorem dL_law_285 : decode code 285 = .ok (.aload_n 0, 1) := by decide +kernel
theorem dL_law_286 : decode code 286 = .ok (.iload_n 3, 1) := by decide +kernel
theorem dL_law_287 : decode code 287 = .ok (.iconst 1, 1) := by decide +kernel
theorem dL_law_288 : decode code 288 = .ok (.iadd, 1) := by decide +kernel
theorem dL_law_289 : decode code 289 = .ok (.iaload, 1) := by decide +kernel
theorem dL_law_290 : decode code 290 = .ok (.aload_n 0, 1) := by decide +kernel
theorem dL_law_291 : decode code 291 = .ok (.iload_n 3, 1) := by decide +kernel
theorem dL_law_292 : decode code 292 = .ok (.iconst 2, 1) := by decide +kernel
theorem dL_law_293 : decode code 293 = .ok (.iadd, 1) := by decide +kernel
theorem dL_law_294 : decode code 294 = .ok (.iaload, 1) := by decide +kernel
theorem dL_law_295 : decode code 295 = .ok (.invokevirtual 45, 3) := by decide +kernel
theorem dL_law_298 : decode code 298 = .ok (.if_icmp .eq 390, 3) := by decide +kernel
theorem dL_law_301 : decode code 301 = .ok (.iconst 0, 1) := by decide +kernel
theorem dL_law_302 : decode code 302 = .ok (.ireturn, 1) := by decide +kernel
theorem dL_law_303 : decode code 303 = .ok (.aload_n 1, 1) := by decide +kernel
theorem dL_law_304 : decode code 304 = .ok (.aload_n 0, 1) := by decide +kernel
theorem dL_law_305 : decode code 305 = .ok (.iload_n 3, 1) := by decide +kernel
theorem dL_law_306 : decode code 306 = .ok (.iconst 1, 1) := by decide +kernel
theorem dL_law_307 : decode code 307 = .ok (.iadd, 1) := by decide +kernel
theorem dL_law_308 : decode code 308 = .ok (.iaload, 1) := by decide +kernel
theorem dL_law_309 : decode code 309 = .ok (.aload_n 0, 1) := by decide +kernel
theorem dL_law_310 : decode code 310 = .ok (.iload_n 3, 1) := by decide +kernel
theorem dL_law_311 : decode code 311 = .ok (.iconst 2, 1) := by decide +kernel
theorem dL_law_312 : decode code 312 = .ok (.iadd, 1) := by decide +kernel
theorem dL_law_313 : decode code 313 = .ok (.iaload, 1) := by decide +kernel
theorem dL_law_314 : decode code 314 = .ok (.aload_n 0, 1) := by decide +kernel
theorem dL_law_315 : decode code 315 = .ok (.iload_n 3, 1) := by decide +kernel
theorem dL_law_316 : decode code 316 = .ok (.iconst 3, 1) := by decide +kernel
theorem dL_law_317 : decode code 317 = .ok (.iadd, 1) := by decide +kernel
theorem dL_law_318 : decode code 318 = .ok (.iaload, 1) := by decide +kernel
theorem dL_law_319 : decode code 319 = .ok (.invokevirtual 46, 3) := by decide +kernel
theorem dL_law_322 : decode code 322 = .ok (.aload_n 2, 1) := by decide +kernel
theorem dL_law_323 : decode code 323 = .ok (.aload_n 0, 1) := by decide +kernel
theorem dL_law_324 : decode code 324 = .ok (.iload_n 3, 1) := by decide +kernel
theorem dL_law_325 : decode code 325 = .ok (.iconst 1, 1) := by decide +kernel
theorem dL_law_326 : decode code 326 = .ok (.iadd, 1) := by decide +kernel
theorem dL_law_327 : decode code 327 = .ok (.iaload, 1) := by decide +kernel
theorem dL_law_328 : decode code 328 = .ok (.aload_n 0, 1) := by decide +kernel
theorem dL_law_329 : decode code 329 = .ok (.iload_n 3, 1) := by decide +kernel
theorem dL_law_330 : decode code 330 = .ok (.iconst 2, 1) := by decide +kernel
theorem dL_law_331 : decode code 331 = .ok (.iadd, 1) := by decide +kernel
theorem dL_law_332 : decode code 332 = .ok (.iaload, 1) := by decide +kernel
theorem dL_law_333 : decode code 333 = .ok (.aload_n 0, 1) := by decide +kernel
theorem dL_law_334 : decode code 334 = .ok (.iload_n 3, 1) := by decide +kernel
theorem dL_law_335 : decode code 335 = .ok (.iconst 3, 1) := by decide +kernel
theorem dL_law_336 : decode code 336 = .ok (.iadd, 1) := by decide +kernel
theorem dL_law_337 : decode code 337 = .ok (.iaload, 1) := by decide +kernel
theorem dL_law_338 : decode code 338 = .ok (.invokevirtual 50, 3) := by decide +kernel
theorem dL_law_341 : decode code 341 = .ok (.if_icmp .eq 347, 3) := by decide +kernel
theorem dL_law_344 : decode code 344 = .ok (.iconst 0, 1) := by decide +kernel
theorem dL_law_345 : decode code 345 = .ok (.ireturn, 1) := by decide +kernel
theorem dL_law_346 : decode code 346 = .ok (.aload_n 1, 1) := by decide +kernel
theorem dL_law_347 : decode code 347 = .ok (.aload_n 0, 1) := by decide +kernel
theorem dL_law_348 : decode code 348 = .ok (.iload_n 3, 1) := by decide +kernel
theorem dL_law_349 : decode code 349 = .ok (.iconst 1, 1) := by decide +kernel
theorem dL_law_350 : decode code 350 = .ok (.iadd, 1) := by decide +kernel
theorem dL_law_351 : decode code 351 = .ok (.iaload, 1) := by decide +kernel
theorem dL_law_352 : decode code 352 = .ok (.aload_n 0, 1) := by decide +kernel
theorem dL_law_353 : decode code 353 = .ok (.iload_n 3, 1) := by decide +kernel
theorem dL_law_354 : decode code 354 = .ok (.iconst 2, 1) := by decide +kernel
theorem dL_law_355 : decode code 355 = .ok (.iadd, 1) := by decide +kernel
theorem dL_law_356 : decode code 356 = .ok (.iaload, 1) := by decide +kernel
theorem dL_law_357 : decode code 357 = .ok (.ifCond .eq 7, 3) := by decide +kernel
theorem dL_law_360 : decode code 360 = .ok (.iconst 1, 1) := by decide +kernel
theorem dL_law_361 : decode code 361 = .ok (.goto 4, 3) := by decide +kernel
theorem dL_law_364 : decode code 364 = .ok (.iconst 0, 1) := by decide +kernel
theorem dL_law_365 : decode code 365 = .ok (.invokevirtual 51, 3) := by decide +kernel
theorem dL_law_368 : decode code 368 = .ok (.aload_n 2, 1) := by decide +kernel
theorem dL_law_369 : decode code 369 = .ok (.aload_n 0, 1) := by decide +kernel
theorem dL_law_370 : decode code 370 = .ok (.iload_n 3, 1) := by decide +kernel
theorem dL_law_371 : decode code 371 = .ok (.iconst 1, 1) := by decide +kernel
theorem dL_law_372 : decode code 372 = .ok (.iadd, 1) := by decide +kernel
theorem dL_law_373 : decode code 373 = .ok (.iaload, 1) := by decide +kernel
theorem dL_law_374 : decode code 374 = .ok (.aload_n 0, 1) := by decide +kernel
theorem dL_law_375 : decode code 375 = .ok (.iload_n 3, 1) := by decide +kernel
theorem dL_law_376 : decode code 376 = .ok (.iconst 2, 1) := by decide +kernel
theorem dL_law_377 : decode code 377 = .ok (.iadd, 1) := by decide +kernel
theorem dL_law_378 : decode code 378 = .ok (.iaload, 1) := by decide +kernel
theorem dL_law_379 : decode code 379 = .ok (.ifCond .eq 7, 3) := by decide +kernel
theorem dL_law_382 : decode code 382 = .ok (.iconst 1, 1) := by decide +kernel
theorem dL_law_383 : decode code 383 = .ok (.goto 4, 3) := by decide +kernel
theorem dL_law_386 : decode code 386 = .ok (.iconst 0, 1) := by decide +kernel
theorem dL_law_387 : decode code 387 = .ok (.invokevirtual 55, 3) := by decide +kernel
theorem dL_law_390 : decode code 390 = .ok (.if_icmp .eq 298, 3) := by decide +kernel
theorem dL_law_393 : decode code 393 = .ok (.iconst 0, 1) := by decide +kernel
theorem dL_law_394 : decode code 394 = .ok (.ireturn, 1) := by decide +kernel
theorem dL_law_395 : decode code 395 = .ok (.aload_n 1, 1) := by decide +kernel
theorem dL_law_396 : decode code 396 = .ok (.aload_n 0, 1) := by decide +kernel
theorem dL_law_397 : decode code 397 = .ok (.iload_n 3, 1) := by decide +kernel
theorem dL_law_398 : decode code 398 = .ok (.iconst 1, 1) := by decide +kernel
theorem dL_law_399 : decode code 399 = .ok (.iadd, 1) := by decide +kernel
theorem dL_law_400 : decode code 400 = .ok (.iaload, 1) := by decide +kernel
theorem dL_law_401 : decode code 401 = .ok (.invokevirtual 56, 3) := by decide +kernel
theorem dL_law_404 : decode code 404 = .ok (.aload_n 2, 1) := by decide +kernel
theorem dL_law_405 : decode code 405 = .ok (.aload_n 0, 1) := by decide +kernel
theorem dL_law_406 : decode code 406 = .ok (.iload_n 3, 1) := by decide +kernel
theorem dL_law_407 : decode code 407 = .ok (.iconst 1, 1) := by decide +kernel
theorem dL_law_408 : decode code 408 = .ok (.iadd, 1) := by decide +kernel
theorem dL_law_409 : decode code 409 = .ok (.iaload, 1) := by decide +kernel
theorem dL_law_410 : decode code 410 = .ok (.invokevirtual 59, 3) := by decide +kernel
theorem dL_law_413 : decode code 413 = .ok (.if_icmp .eq 275, 3) := by decide +kernel
theorem dL_law_416 : decode code 416 = .ok (.iconst 0, 1) := by decide +kernel
theorem dL_law_417 : decode code 417 = .ok (.ireturn, 1) := by decide +kernel
theorem dL_law_418 : decode code 418 = .ok (.aload_n 1, 1) := by decide +kernel
theorem dL_law_419 : decode code 419 = .ok (.aload_n 0, 1) := by decide +kernel
theorem dL_law_420 : decode code 420 = .ok (.iload_n 3, 1) := by decide +kernel
theorem dL_law_421 : decode code 421 = .ok (.iconst 1, 1) := by decide +kernel
theorem dL_law_422 : decode code 422 = .ok (.iadd, 1) := by decide +kernel
theorem dL_law_423 : decode code 423 = .ok (.iaload, 1) := by decide +kernel
theorem dL_law_424 : decode code 424 = .ok (.invokevirtual 60, 3) := by decide +kernel
theorem dL_law_427 : decode code 427 = .ok (.aload_n 2, 1) := by decide +kernel
theorem dL_law_428 : decode code 428 = .ok (.aload_n 0, 1) := by decide +kernel
theorem dL_law_429 : decode code 429 = .ok (.iload_n 3, 1) := by decide +kernel
theorem dL_law_430 : decode code 430 = .ok (.iconst 1, 1) := by decide +kernel
theorem dL_law_431 : decode code 431 = .ok (.iadd, 1) := by decide +kernel
theorem dL_law_432 : decode code 432 = .ok (.iaload, 1) := by decide +kernel
theorem dL_law_433 : decode code 433 = .ok (.invokevirtual 63, 3) := by decide +kernel
theorem dL_law_436 : decode code 436 = .ok (.if_icmp .eq 252, 3) := by decide +kernel
theorem dL_law_439 : decode code 439 = .ok (.iconst 0, 1) := by decide +kernel
theorem dL_law_440 : decode code 440 = .ok (.ireturn, 1) := by decide +kernel
theorem dL_law_441 : decode code 441 = .ok (.aload_n 1, 1) := by decide +kernel
theorem dL_law_442 : decode code 442 = .ok (.aload_n 0, 1) := by decide +kernel
theorem dL_law_443 : decode code 443 = .ok (.iload_n 3, 1) := by decide +kernel
theorem dL_law_444 : decode code 444 = .ok (.iconst 1, 1) := by decide +kernel
theorem dL_law_445 : decode code 445 = .ok (.iadd, 1) := by decide +kernel
theorem dL_law_446 : decode code 446 = .ok (.iaload, 1) := by decide +kernel
theorem dL_law_447 : decode code 447 = .ok (.invokevirtual 64, 3) := by decide +kernel
theorem dL_law_450 : decode code 450 = .ok (.aload_n 2, 1) := by decide +kernel
theorem dL_law_451 : decode code 451 = .ok (.aload_n 0, 1) := by decide +kernel
theorem dL_law_452 : decode code 452 = .ok (.iload_n 3, 1) := by decide +kernel
theorem dL_law_453 : decode code 453 = .ok (.iconst 1, 1) := by decide +kernel
theorem dL_law_454 : decode code 454 = .ok (.iadd, 1) := by decide +kernel
theorem dL_law_455 : decode code 455 = .ok (.iaload, 1) := by decide +kernel
theorem dL_law_456 : decode code 456 = .ok (.invokevirtual 67, 3) := by decide +kernel
theorem dL_law_459 : decode code 459 = .ok (.if_icmp .eq 229, 3) := by decide +kernel
theorem dL_law_462 : decode code 462 = .ok (.iconst 0, 1) := by decide +kernel
theorem dL_law_463 : decode code 463 = .ok (.ireturn, 1) := by decide +kernel
theorem dL_law_464 : decode code 464 = .ok (.aload_n 1, 1) := by decide +kernel
theorem dL_law_465 : decode code 465 = .ok (.aload_n 0, 1) := by decide +kernel
theorem dL_law_466 : decode code 466 = .ok (.iload_n 3, 1) := by decide +kernel
theorem dL_law_467 : decode code 467 = .ok (.iconst 1, 1) := by decide +kernel
theorem dL_law_468 : decode code 468 = .ok (.iadd, 1) := by decide +kernel
theorem dL_law_469 : decode code 469 = .ok (.iaload, 1) := by decide +kernel
theorem dL_law_470 : decode code 470 = .ok (.invokevirtual 68, 3) := by decide +kernel
theorem dL_law_473 : decode code 473 = .ok (.aload_n 2, 1) := by decide +kernel
theorem dL_law_474 : decode code 474 = .ok (.aload_n 0, 1) := by decide +kernel
theorem dL_law_475 : decode code 475 = .ok (.iload_n 3, 1) := by decide +kernel
theorem dL_law_476 : decode code 476 = .ok (.iconst 1, 1) := by decide +kernel
theorem dL_law_477 : decode code 477 = .ok (.iadd, 1) := by decide +kernel
theorem dL_law_478 : decode code 478 = .ok (.iaload, 1) := by decide +kernel
theorem dL_law_479 : decode code 479 = .ok (.invokevirtual 71, 3) := by decide +kernel
theorem dL_law_482 : decode code 482 = .ok (.if_icmp .eq 206, 3) := by decide +kernel
theorem dL_law_485 : decode code 485 = .ok (.iconst 0, 1) := by decide +kernel
theorem dL_law_486 : decode code 486 = .ok (.ireturn, 1) := by decide +kernel
theorem dL_law_487 : decode code 487 = .ok (.aload_n 1, 1) := by decide +kernel
theorem dL_law_488 : decode code 488 = .ok (.aload_n 0, 1) := by decide +kernel
theorem dL_law_489 : decode code 489 = .ok (.iload_n 3, 1) := by decide +kernel
theorem dL_law_490 : decode code 490 = .ok (.iconst 1, 1) := by decide +kernel
theorem dL_law_491 : decode code 491 = .ok (.iadd, 1) := by decide +kernel
theorem dL_law_492 : decode code 492 = .ok (.iaload, 1) := by decide +kernel
theorem dL_law_493 : decode code 493 = .ok (.aload_n 0, 1) := by decide +kernel
theorem dL_law_494 : decode code 494 = .ok (.iload_n 3, 1) := by decide +kernel
theorem dL_law_495 : decode code 495 = .ok (.iconst 2, 1) := by decide +kernel
theorem dL_law_496 : decode code 496 = .ok (.iadd, 1) := by decide +kernel
theorem dL_law_497 : decode code 497 = .ok (.iaload, 1) := by decide +kernel
theorem dL_law_498 : decode code 498 = .ok (.invokevirtual 72, 3) := by decide +kernel
theorem dL_law_501 : decode code 501 = .ok (.aload_n 2, 1) := by decide +kernel
theorem dL_law_502 : decode code 502 = .ok (.aload_n 0, 1) := by decide +kernel
theorem dL_law_503 : decode code 503 = .ok (.iload_n 3, 1) := by decide +kernel
theorem dL_law_504 : decode code 504 = .ok (.iconst 1, 1) := by decide +kernel
theorem dL_law_505 : decode code 505 = .ok (.iadd, 1) := by decide +kernel
theorem dL_law_506 : decode code 506 = .ok (.iaload, 1) := by decide +kernel
theorem dL_law_507 : decode code 507 = .ok (.aload_n 0, 1) := by decide +kernel
theorem dL_law_508 : decode code 508 = .ok (.iload_n 3, 1) := by decide +kernel
theorem dL_law_509 : decode code 509 = .ok (.iconst 2, 1) := by decide +kernel
theorem dL_law_510 : decode code 510 = .ok (.iadd, 1) := by decide +kernel
theorem dL_law_511 : decode code 511 = .ok (.iaload, 1) := by decide +kernel
theorem dL_law_512 : decode code 512 = .ok (.invokevirtual 75, 3) := by decide +kernel
theorem dL_law_515 : decode code 515 = .ok (.if_icmp .eq 173, 3) := by decide +kernel
theorem dL_law_518 : decode code 518 = .ok (.iconst 0, 1) := by decide +kernel
theorem dL_law_519 : decode code 519 = .ok (.ireturn, 1) := by decide +kernel
theorem dL_law_520 : decode code 520 = .ok (.aload_n 1, 1) := by decide +kernel
theorem dL_law_521 : decode code 521 = .ok (.aload_n 0, 1) := by decide +kernel
theorem dL_law_522 : decode code 522 = .ok (.iload_n 3, 1) := by decide +kernel
theorem dL_law_523 : decode code 523 = .ok (.iconst 1, 1) := by decide +kernel
theorem dL_law_524 : decode code 524 = .ok (.iadd, 1) := by decide +kernel
theorem dL_law_525 : decode code 525 = .ok (.iaload, 1) := by decide +kernel
theorem dL_law_526 : decode code 526 = .ok (.aload_n 0, 1) := by decide +kernel
theorem dL_law_527 : decode code 527 = .ok (.iload_n 3, 1) := by decide +kernel
theorem dL_law_528 : decode code 528 = .ok (.iconst 2, 1) := by decide +kernel
theorem dL_law_529 : decode code 529 = .ok (.iadd, 1) := by decide +kernel
theorem dL_law_530 : decode code 530 = .ok (.iaload, 1) := by decide +kernel
theorem dL_law_531 : decode code 531 = .ok (.aload_n 0, 1) := by decide +kernel
theorem dL_law_532 : decode code 532 = .ok (.iload_n 3, 1) := by decide +kernel
theorem dL_law_533 : decode code 533 = .ok (.iconst 3, 1) := by decide +kernel
theorem dL_law_534 : decode code 534 = .ok (.iadd, 1) := by decide +kernel
theorem dL_law_535 : decode code 535 = .ok (.iaload, 1) := by decide +kernel
theorem dL_law_536 : decode code 536 = .ok (.invokevirtual 76, 3) := by decide +kernel
theorem dL_law_539 : decode code 539 = .ok (.aload_n 2, 1) := by decide +kernel
theorem dL_law_540 : decode code 540 = .ok (.aload_n 0, 1) := by decide +kernel
theorem dL_law_541 : decode code 541 = .ok (.iload_n 3, 1) := by decide +kernel
theorem dL_law_542 : decode code 542 = .ok (.iconst 1, 1) := by decide +kernel
theorem dL_law_543 : decode code 543 = .ok (.iadd, 1) := by decide +kernel
theorem dL_law_544 : decode code 544 = .ok (.iaload, 1) := by decide +kernel
theorem dL_law_545 : decode code 545 = .ok (.aload_n 0, 1) := by decide +kernel
theorem dL_law_546 : decode code 546 = .ok (.iload_n 3, 1) := by decide +kernel
theorem dL_law_547 : decode code 547 = .ok (.iconst 2, 1) := by decide +kernel
theorem dL_law_548 : decode code 548 = .ok (.iadd, 1) := by decide +kernel
theorem dL_law_549 : decode code 549 = .ok (.iaload, 1) := by decide +kernel
theorem dL_law_550 : decode code 550 = .ok (.aload_n 0, 1) := by decide +kernel
theorem dL_law_551 : decode code 551 = .ok (.iload_n 3, 1) := by decide +kernel
theorem dL_law_552 : decode code 552 = .ok (.iconst 3, 1) := by decide +kernel
theorem dL_law_553 : decode code 553 = .ok (.iadd, 1) := by decide +kernel
theorem dL_law_554 : decode code 554 = .ok (.iaload, 1) := by decide +kernel
theorem dL_law_555 : decode code 555 = .ok (.invokevirtual 79, 3) := by decide +kernel
theorem dL_law_558 : decode code 558 = .ok (.if_icmp .eq 130, 3) := by decide +kernel
theorem dL_law_561 : decode code 561 = .ok (.iconst 0, 1) := by decide +kernel
theorem dL_law_562 : decode code 562 = .ok (.ireturn, 1) := by decide +kernel
theorem dL_law_563 : decode code 563 = .ok (.aload_n 1, 1) := by decide +kernel
theorem dL_law_564 : decode code 564 = .ok (.aload_n 0, 1) := by decide +kernel
theorem dL_law_565 : decode code 565 = .ok (.iload_n 3, 1) := by decide +kernel
theorem dL_law_566 : decode code 566 = .ok (.iconst 1, 1) := by decide +kernel
theorem dL_law_567 : decode code 567 = .ok (.iadd, 1) := by decide +kernel
theorem dL_law_568 : decode code 568 = .ok (.iaload, 1) := by decide +kernel
theorem dL_law_569 : decode code 569 = .ok (.invokevirtual 80, 3) := by decide +kernel
theorem dL_law_572 : decode code 572 = .ok (.aload_n 2, 1) := by decide +kernel
theorem dL_law_573 : decode code 573 = .ok (.aload_n 0, 1) := by decide +kernel
theorem dL_law_574 : decode code 574 = .ok (.iload_n 3, 1) := by decide +kernel
theorem dL_law_575 : decode code 575 = .ok (.iconst 1, 1) := by decide +kernel
theorem dL_law_576 : decode code 576 = .ok (.iadd, 1) := by decide +kernel
theorem dL_law_577 : decode code 577 = .ok (.iaload, 1) := by decide +kernel
theorem dL_law_578 : decode code 578 = .ok (.invokevirtual 83, 3) := by decide +kernel
theorem dL_law_581 : decode code 581 = .ok (.if_icmp .eq 107, 3) := by decide +kernel
theorem dL_law_584 : decode code 584 = .ok (.iconst 0, 1) := by decide +kernel
theorem dL_law_585 : decode code 585 = .ok (.ireturn, 1) := by decide +kernel
theorem dL_law_586 : decode code 586 = .ok (.aload_n 1, 1) := by decide +kernel
theorem dL_law_587 : decode code 587 = .ok (.aload_n 0, 1) := by decide +kernel
theorem dL_law_588 : decode code 588 = .ok (.iload_n 3, 1) := by decide +kernel
theorem dL_law_589 : decode code 589 = .ok (.iconst 1, 1) := by decide +kernel
theorem dL_law_590 : decode code 590 = .ok (.iadd, 1) := by decide +kernel
theorem dL_law_591 : decode code 591 = .ok (.iaload, 1) := by decide +kernel
theorem dL_law_592 : decode code 592 = .ok (.aload_n 0, 1) := by decide +kernel
theorem dL_law_593 : decode code 593 = .ok (.iload_n 3, 1) := by decide +kernel
theorem dL_law_594 : decode code 594 = .ok (.iconst 2, 1) := by decide +kernel
theorem dL_law_595 : decode code 595 = .ok (.iadd, 1) := by decide +kernel
theorem dL_law_596 : decode code 596 = .ok (.iaload, 1) := by decide +kernel
theorem dL_law_597 : decode code 597 = .ok (.invokevirtual 84, 3) := by decide +kernel
theorem dL_law_600 : decode code 600 = .ok (.aload_n 2, 1) := by decide +kernel
theorem dL_law_601 : decode code 601 = .ok (.aload_n 0, 1) := by decide +kernel
theorem dL_law_602 : decode code 602 = .ok (.iload_n 3, 1) := by decide +kernel
theorem dL_law_603 : decode code 603 = .ok (.iconst 1, 1) := by decide +kernel
theorem dL_law_604 : decode code 604 = .ok (.iadd, 1) := by decide +kernel
theorem dL_law_605 : decode code 605 = .ok (.iaload, 1) := by decide +kernel
theorem dL_law_606 : decode code 606 = .ok (.aload_n 0, 1) := by decide +kernel
theorem dL_law_607 : decode code 607 = .ok (.iload_n 3, 1) := by decide +kernel
theorem dL_law_608 : decode code 608 = .ok (.iconst 2, 1) := by decide +kernel
theorem dL_law_609 : decode code 609 = .ok (.iadd, 1) := by decide +kernel
theorem dL_law_610 : decode code 610 = .ok (.iaload, 1) := by decide +kernel
theorem dL_law_611 : decode code 611 = .ok (.invokevirtual 87, 3) := by decide +kernel
theorem dL_law_614 : decode code 614 = .ok (.if_icmp .eq 74, 3) := by decide +kernel
theorem dL_law_617 : decode code 617 = .ok (.iconst 0, 1) := by decide +kernel
theorem dL_law_618 : decode code 618 = .ok (.ireturn, 1) := by decide +kernel
theorem dL_law_619 : decode code 619 = .ok (.aload_n 1, 1) := by decide +kernel
theorem dL_law_620 : decode code 620 = .ok (.aload_n 0, 1) := by decide +kernel
theorem dL_law_621 : decode code 621 = .ok (.iload_n 3, 1) := by decide +kernel
theorem dL_law_622 : decode code 622 = .ok (.iconst 1, 1) := by decide +kernel
theorem dL_law_623 : decode code 623 = .ok (.iadd, 1) := by decide +kernel
theorem dL_law_624 : decode code 624 = .ok (.iaload, 1) := by decide +kernel
theorem dL_law_625 : decode code 625 = .ok (.aload_n 0, 1) := by decide +kernel
theorem dL_law_626 : decode code 626 = .ok (.iload_n 3, 1) := by decide +kernel
theorem dL_law_627 : decode code 627 = .ok (.iconst 2, 1) := by decide +kernel
theorem dL_law_628 : decode code 628 = .ok (.iadd, 1) := by decide +kernel
theorem dL_law_629 : decode code 629 = .ok (.iaload, 1) := by decide +kernel
theorem dL_law_630 : decode code 630 = .ok (.aload_n 0, 1) := by decide +kernel
theorem dL_law_631 : decode code 631 = .ok (.iload_n 3, 1) := by decide +kernel
theorem dL_law_632 : decode code 632 = .ok (.iconst 3, 1) := by decide +kernel
theorem dL_law_633 : decode code 633 = .ok (.iadd, 1) := by decide +kernel
theorem dL_law_634 : decode code 634 = .ok (.iaload, 1) := by decide +kernel
theorem dL_law_635 : decode code 635 = .ok (.invokevirtual 88, 3) := by decide +kernel
theorem dL_law_638 : decode code 638 = .ok (.aload_n 2, 1) := by decide +kernel
theorem dL_law_639 : decode code 639 = .ok (.aload_n 0, 1) := by decide +kernel
theorem dL_law_640 : decode code 640 = .ok (.iload_n 3, 1) := by decide +kernel
theorem dL_law_641 : decode code 641 = .ok (.iconst 1, 1) := by decide +kernel
theorem dL_law_642 : decode code 642 = .ok (.iadd, 1) := by decide +kernel
theorem dL_law_643 : decode code 643 = .ok (.iaload, 1) := by decide +kernel
theorem dL_law_644 : decode code 644 = .ok (.aload_n 0, 1) := by decide +kernel
theorem dL_law_645 : decode code 645 = .ok (.iload_n 3, 1) := by decide +kernel
theorem dL_law_646 : decode code 646 = .ok (.iconst 2, 1) := by decide +kernel
theorem dL_law_647 : decode code 647 = .ok (.iadd, 1) := by decide +kernel
theorem dL_law_648 : decode code 648 = .ok (.iaload, 1) := by decide +kernel
theorem dL_law_649 : decode code 649 = .ok (.aload_n 0, 1) := by decide +kernel
theorem dL_law_650 : decode code 650 = .ok (.iload_n 3, 1) := by decide +kernel
theorem dL_law_651 : decode code 651 = .ok (.iconst 3, 1) := by decide +kernel
theorem dL_law_652 : decode code 652 = .ok (.iadd, 1) := by decide +kernel
theorem dL_law_653 : decode code 653 = .ok (.iaload, 1) := by decide +kernel
theorem dL_law_654 : decode code 654 = .ok (.invokevirtual 91, 3) := by decide +kernel
theorem dL_law_657 : decode code 657 = .ok (.if_icmp .eq 31, 3) := by decide +kernel
theorem dL_law_660 : decode code 660 = .ok (.iconst 0, 1) := by decide +kernel
theorem dL_law_661 : decode code 661 = .ok (.ireturn, 1) := by decide +kernel
theorem dL_law_662 : decode code 662 = .ok (.aload_n 1, 1) := by decide +kernel
theorem dL_law_663 : decode code 663 = .ok (.invokevirtual 92, 3) := by decide +kernel
theorem dL_law_666 : decode code 666 = .ok (.aload_n 2, 1) := by decide +kernel
theorem dL_law_667 : decode code 667 = .ok (.invokevirtual 96, 3) := by decide +kernel
theorem dL_law_670 : decode code 670 = .ok (.if_icmp .eq 18, 3) := by decide +kernel
theorem dL_law_673 : decode code 673 = .ok (.iconst 0, 1) := by decide +kernel
theorem dL_law_674 : decode code 674 = .ok (.ireturn, 1) := by decide +kernel
theorem dL_law_675 : decode code 675 = .ok (.aload_n 1, 1) := by decide +kernel
theorem dL_law_676 : decode code 676 = .ok (.invokevirtual 97, 3) := by decide +kernel
theorem dL_law_679 : decode code 679 = .ok (.aload_n 2, 1) := by decide +kernel
theorem dL_law_680 : decode code 680 = .ok (.invokevirtual 100, 3) := by decide +kernel
theorem dL_law_683 : decode code 683 = .ok (.if_icmp .eq 5, 3) := by decide +kernel
theorem dL_law_686 : decode code 686 = .ok (.iconst 0, 1) := by decide +kernel
theorem dL_law_687 : decode code 687 = .ok (.ireturn, 1) := by decide +kernel
theorem dL_law_688 : decode code 688 = .ok (.iinc 3 4, 3) := by decide +kernel
theorem dL_law_691 : decode code 691 = .ok (.goto (-643), 3) := by decide +kernel
theorem dL_law_694 : decode code 694 = .ok (.iconst 1, 1) := by decide +kernel
theorem dL_law_695 : decode code 695 = .ok (.ireturn, 1) := by decide +kernel
set_option maxHeartbeats 8000000 in
set_option maxRecDepth 100000 in
theorem law_loop {l : Launch} {D : va_G} {X : jX} {cI cZ : ClassId} {cw : Cond} {ret0 : Option FieldType} {b Ln : Nat} {xs : Nat → Int32} {a q : Nat → Nat} (RR : jS → jS → Prop) (hRR : lawStep RR) (hF : jF D room_1 4 X code rL (cw :: jG) (jTys cI cZ) ret0) (hX : lX X b Ln xs) (hLn : Ln ≤ 2051) (hend : ∀ (wl : va_W) (pc : Nat) (L : List (Nat × Value)), decode code pc = .ok (.ireturn, 1) → jJ l D room_1 4 X wl pc L [.int 1]) :
    ∀ k, k ≤ 600 → ∀ s : jS × jS, RR s.1 s.2 → jJ l D room_1 4 X (wC a cI cZ s.1 ++ wM q cI cZ s.2) 48 [(3, .int (nI (3 + 4 * k))), (2, .ref (q 0)), (1, .ref (a 0)), (0, .ref b)] [] := by
  refine loop_st (fun k hk ih s hs => ?_)
  obtain ⟨σ, τ⟩ := s
  have hs : RR σ τ := hs
  show jJ l D room_1 4 X (wC a cI cZ σ ++ wM q cI cZ τ) 48 [(3, .int (nI (3 + 4 * k))), (2, .ref (q 0)), (1, .ref (a 0)), (0, .ref b)] []
  have hI := (hRR σ τ hs).1
  have hJ := (hRR σ τ hs).2.1
  refine jq_iload_n (pc := 48) hF 0 dL_law_48 rfl ?_
  refine jq_aload_n (pc := 49) hF 3 dL_law_49 rfl ?_
  refine jq_slen (pc := 50) hF hX dL_law_50 ?_
  refine jq_iconst (pc := 51) hF dL_law_51 ic_4 ?_
  refine jq_isub (pc := 52) hF dL_law_52 ?_
  refine jq_icmp_gt (pc := 53) hF 694 dL_law_53 rfl (fun h => ?_) (fun h => ?_)
  · refine jq_iconst (pc := 694) hF dL_law_694 ic_1 ?_
    exact jq_at (hend _ 695 _ dL_law_695) rfl rfl rfl (by decide +kernel)
  have hlt : 3 + 4 * k + 4 ≤ Ln := Nat.le_of_not_lt (fun e => h ((lw_cmp (by omega) (by omega)).mpr e))
  have back : ∀ σ' τ', RR σ' τ' → ∀ st, st = ([] : List Value) → jJ l D room_1 4 X (wC a cI cZ σ' ++ wM q cI cZ τ') 688 [(3, .int (nI (3 + 4 * k))), (2, .ref (q 0)), (1, .ref (a 0)), (0, .ref b)] st := by
    intro σ' τ' h' st est
    subst est
    refine jq_iinc (pc := 688) hF 0 (v := nI (3 + 4 * (k + 1))) [(3, .int (nI (3 + 4 * (k + 1)))), (2, .ref (q 0)), (1, .ref (a 0)), (0, .ref b)] dL_law_688 rfl (by rw [show Int32.ofInt 4 = nI 4 by decide +kernel, nI_add, show 3 + 4 * k + 4 = 3 + 4 * (k + 1) by omega]) (by decide) rfl ?_
    refine jq_goto (pc := 691) hF 48 dL_law_691 rfl ?_
    exact ih (by omega) (σ', τ') h'
  refine jq_aload_n (pc := 56) hF 3 dL_law_56 rfl ?_
  refine jq_iload_n (pc := 57) hF 0 dL_law_57 rfl ?_
  refine jq_sld (pc := 58) hF hX (by omega) (by omega) dL_law_58 ?_
  refine jq_bipush (pc := 59) hF dL_law_59 bi_31 ?_
  refine jq_iand (pc := 61) hF dL_law_61 ?_
  obtain ⟨j, hj, ej⟩ := pk_andE (xs (3 + 4 * k)) (m := nI 31) 5 (by decide)
  refine jq_top (nI j) ej ?_
  have hc : j = 0 ∨ j = 1 ∨ j = 2 ∨ j = 3 ∨ j = 4 ∨ j = 5 ∨ j = 6 ∨ j = 7 ∨ j = 8 ∨ j = 9 ∨ j = 10 ∨ j = 11 ∨ j = 12 ∨ j = 13 ∨ j = 14 ∨ j = 15 ∨ j = 16 ∨ j = 17 ∨ 18 ≤ j := by omega
  rcases hc with rfl | rfl | rfl | rfl | rfl | rfl | rfl | rfl | rfl | rfl | rfl | rfl | rfl | rfl | rfl | rfl | rfl | rfl | hc
  · refine jq_tabIn (pc := 62) hF 148 dL_law_62 (by decide) (by decide) (off := 86) (by decide) rfl ?_
    refine jq_aload_n (pc := 148) hF 2 dL_law_148 rfl ?_
    refine jq_aload_n (pc := 149) hF 3 dL_law_149 rfl ?_
    refine jq_iload_n (pc := 150) hF 0 dL_law_150 rfl ?_
    refine jq_iconst (pc := 151) hF dL_law_151 ic_1 ?_
    refine jq_iaddN (pc := 152) hF dL_law_152 ?_
    refine jq_sld (pc := 153) hF hX (by omega) (by omega) dL_law_153 ?_
    refine jq_cL (pc := 154) hF (As := [.int (xs (3 + 4 * k + 1))]) (rest := []) (List.range 35) ((List.range 30).map (· + 35)) (lcC1 a q cI cZ σ τ) (lcC2 a q cI cZ σ τ) (by decide) (lcC3 a q cI cZ σ τ) (by decide) (by decide) (mN_bridge l D a cI cZ σ (xs (3 + 4 * k + 1)) hI) (jG_v mL_L_21 mI_N_bridge mS_N_bridge mZ_N mC_N_bridge) rfl rfl rfl dd_N_bridge ⟨(Nat.le_of_ble_eq_true rfl), (Nat.le_of_ble_eq_true rfl)⟩ 0 rfl rfl rfl rfl (Nat.le_of_ble_eq_true rfl) dL_law_154 ?_
    refine jq_aload_n (pc := 157) hF 1 dL_law_157 rfl ?_
    refine jq_aload_n (pc := 158) hF 3 dL_law_158 rfl ?_
    refine jq_iload_n (pc := 159) hF 0 dL_law_159 rfl ?_
    refine jq_iconst (pc := 160) hF dL_law_160 ic_1 ?_
    refine jq_iaddN (pc := 161) hF dL_law_161 ?_
    refine jq_sld (pc := 162) hF hX (by omega) (by omega) dL_law_162 ?_
    refine jq_cL (pc := 163) hF (As := [.int (xs (3 + 4 * k + 1))]) (rest := [.int (if cBridgeB σ (xs (3 + 4 * k + 1)) = true then σ 1 0 else -1)]) (List.range 30) ((List.range 35).map (· + 30)) (lcM1 a q cI cZ (if cBridgeB σ (xs (3 + 4 * k + 1)) = true then cSettle (cAddBridge σ (xs (3 + 4 * k + 1))) else σ) τ) (lcM2 a q cI cZ (if cBridgeB σ (xs (3 + 4 * k + 1)) = true then cSettle (cAddBridge σ (xs (3 + 4 * k + 1))) else σ) τ) (by decide) (lcM3 a q cI cZ (if cBridgeB σ (xs (3 + 4 * k + 1)) = true then cSettle (cAddBridge σ (xs (3 + 4 * k + 1))) else σ) τ) (by decide) (by decide) (mM_bridge l D q cI cZ τ (xs (3 + 4 * k + 1)) hJ) (jG_v mL_L_25 mI_M_bridge mS_M_bridge mZ_M mC_M_bridge) rfl rfl rfl dd_M_bridge ⟨(Nat.le_of_ble_eq_true rfl), (Nat.le_of_ble_eq_true rfl)⟩ 0 rfl rfl rfl rfl (Nat.le_of_ble_eq_true rfl) dL_law_163 ?_
    refine jq_icmp_eq (pc := 166) hF 688 dL_law_166 rfl (fun _ => ?_) (fun h9 => absurd ((hRR σ τ hs).2.2.1 (xs (3 + 4 * k + 1))).1 h9)
    exact back _ _ ((hRR σ τ hs).2.2.1 (xs (3 + 4 * k + 1))).2 _ rfl
  · refine jq_tabIn (pc := 62) hF 171 dL_law_62 (by decide) (by decide) (off := 109) (by decide) rfl ?_
    refine jq_aload_n (pc := 171) hF 2 dL_law_171 rfl ?_
    refine jq_aload_n (pc := 172) hF 3 dL_law_172 rfl ?_
    refine jq_iload_n (pc := 173) hF 0 dL_law_173 rfl ?_
    refine jq_iconst (pc := 174) hF dL_law_174 ic_1 ?_
    refine jq_iaddN (pc := 175) hF dL_law_175 ?_
    refine jq_sld (pc := 176) hF hX (by omega) (by omega) dL_law_176 ?_
    refine jq_aload_n (pc := 177) hF 3 dL_law_177 rfl ?_
    refine jq_iload_n (pc := 178) hF 0 dL_law_178 rfl ?_
    refine jq_iconst (pc := 179) hF dL_law_179 ic_2 ?_
    refine jq_iaddN (pc := 180) hF dL_law_180 ?_
    refine jq_sld (pc := 181) hF hX (by omega) (by omega) dL_law_181 ?_
    refine jq_aload_n (pc := 182) hF 3 dL_law_182 rfl ?_
    refine jq_iload_n (pc := 183) hF 0 dL_law_183 rfl ?_
    refine jq_iconst (pc := 184) hF dL_law_184 ic_3 ?_
    refine jq_iaddN (pc := 185) hF dL_law_185 ?_
    refine jq_sld (pc := 186) hF hX (by omega) (by omega) dL_law_186 ?_
    refine jq_cL (pc := 187) hF (As := [.int (xs (3 + 4 * k + 1)), .int (xs (3 + 4 * k + 2)), .int (xs (3 + 4 * k + 3))]) (rest := []) (List.range 35) ((List.range 30).map (· + 35)) (lcC1 a q cI cZ σ τ) (lcC2 a q cI cZ σ τ) (by decide) (lcC3 a q cI cZ σ τ) (by decide) (by decide) (mN_wire l D a cI cZ σ (xs (3 + 4 * k + 1)) (xs (3 + 4 * k + 2)) (xs (3 + 4 * k + 3)) hI) (jG_v mL_L_26 mI_N_wire mS_N_wire mZ_N mC_N_wire) rfl rfl rfl dd_N_wire ⟨(Nat.le_of_ble_eq_true rfl), (Nat.le_of_ble_eq_true rfl)⟩ 0 rfl rfl rfl rfl (Nat.le_of_ble_eq_true rfl) dL_law_187 ?_
    refine jq_aload_n (pc := 190) hF 1 dL_law_190 rfl ?_
    refine jq_aload_n (pc := 191) hF 3 dL_law_191 rfl ?_
    refine jq_iload_n (pc := 192) hF 0 dL_law_192 rfl ?_
    refine jq_iconst (pc := 193) hF dL_law_193 ic_1 ?_
    refine jq_iaddN (pc := 194) hF dL_law_194 ?_
    refine jq_sld (pc := 195) hF hX (by omega) (by omega) dL_law_195 ?_
    refine jq_aload_n (pc := 196) hF 3 dL_law_196 rfl ?_
    refine jq_iload_n (pc := 197) hF 0 dL_law_197 rfl ?_
    refine jq_iconst (pc := 198) hF dL_law_198 ic_2 ?_
    refine jq_iaddN (pc := 199) hF dL_law_199 ?_
    refine jq_sld (pc := 200) hF hX (by omega) (by omega) dL_law_200 ?_
    refine jq_aload_n (pc := 201) hF 3 dL_law_201 rfl ?_
    refine jq_iload_n (pc := 202) hF 0 dL_law_202 rfl ?_
    refine jq_iconst (pc := 203) hF dL_law_203 ic_3 ?_
    refine jq_iaddN (pc := 204) hF dL_law_204 ?_
    refine jq_sld (pc := 205) hF hX (by omega) (by omega) dL_law_205 ?_
    refine jq_cL (pc := 206) hF (As := [.int (xs (3 + 4 * k + 1)), .int (xs (3 + 4 * k + 2)), .int (xs (3 + 4 * k + 3))]) (rest := [.int (if cWireB σ (xs (3 + 4 * k + 1)) (xs (3 + 4 * k + 2)) (xs (3 + 4 * k + 3)) = true then σ 1 1 else -1)]) (List.range 30) ((List.range 35).map (· + 30)) (lcM1 a q cI cZ (if cWireB σ (xs (3 + 4 * k + 1)) (xs (3 + 4 * k + 2)) (xs (3 + 4 * k + 3)) = true then cSettle (cAddWire σ (xs (3 + 4 * k + 1)) (xs (3 + 4 * k + 2)) (xs (3 + 4 * k + 3))) else σ) τ) (lcM2 a q cI cZ (if cWireB σ (xs (3 + 4 * k + 1)) (xs (3 + 4 * k + 2)) (xs (3 + 4 * k + 3)) = true then cSettle (cAddWire σ (xs (3 + 4 * k + 1)) (xs (3 + 4 * k + 2)) (xs (3 + 4 * k + 3))) else σ) τ) (by decide) (lcM3 a q cI cZ (if cWireB σ (xs (3 + 4 * k + 1)) (xs (3 + 4 * k + 2)) (xs (3 + 4 * k + 3)) = true then cSettle (cAddWire σ (xs (3 + 4 * k + 1)) (xs (3 + 4 * k + 2)) (xs (3 + 4 * k + 3))) else σ) τ) (by decide) (by decide) (mM_wire l D q cI cZ τ (xs (3 + 4 * k + 1)) (xs (3 + 4 * k + 2)) (xs (3 + 4 * k + 3)) hJ) (jG_v mL_L_30 mI_M_wire mS_M_wire mZ_M mC_M_wire) rfl rfl rfl dd_M_wire ⟨(Nat.le_of_ble_eq_true rfl), (Nat.le_of_ble_eq_true rfl)⟩ 0 rfl rfl rfl rfl (Nat.le_of_ble_eq_true rfl) dL_law_206 ?_
    refine jq_icmp_eq (pc := 209) hF 688 dL_law_209 rfl (fun _ => ?_) (fun h9 => absurd ((hRR σ τ hs).2.2.2.1 (xs (3 + 4 * k + 1)) (xs (3 + 4 * k + 2)) (xs (3 + 4 * k + 3))).1 h9)
    exact back _ _ ((hRR σ τ hs).2.2.2.1 (xs (3 + 4 * k + 1)) (xs (3 + 4 * k + 2)) (xs (3 + 4 * k + 3))).2 _ rfl
  · refine jq_tabIn (pc := 62) hF 214 dL_law_62 (by decide) (by decide) (off := 152) (by decide) rfl ?_
    refine jq_aload_n (pc := 214) hF 2 dL_law_214 rfl ?_
    refine jq_aload_n (pc := 215) hF 3 dL_law_215 rfl ?_
    refine jq_iload_n (pc := 216) hF 0 dL_law_216 rfl ?_
    refine jq_iconst (pc := 217) hF dL_law_217 ic_1 ?_
    refine jq_iaddN (pc := 218) hF dL_law_218 ?_
    refine jq_sld (pc := 219) hF hX (by omega) (by omega) dL_law_219 ?_
    refine jq_aload_n (pc := 220) hF 3 dL_law_220 rfl ?_
    refine jq_iload_n (pc := 221) hF 0 dL_law_221 rfl ?_
    refine jq_iconst (pc := 222) hF dL_law_222 ic_2 ?_
    refine jq_iaddN (pc := 223) hF dL_law_223 ?_
    refine jq_sld (pc := 224) hF hX (by omega) (by omega) dL_law_224 ?_
    refine jq_cL (pc := 225) hF (As := [.int (xs (3 + 4 * k + 1)), .int (xs (3 + 4 * k + 2))]) (rest := []) (List.range 35) ((List.range 30).map (· + 35)) (lcC1 a q cI cZ σ τ) (lcC2 a q cI cZ σ τ) (by decide) (lcC3 a q cI cZ σ τ) (by decide) (by decide) (mN_host l D a cI cZ σ (xs (3 + 4 * k + 1)) (xs (3 + 4 * k + 2)) hI) (jG_v mL_L_31 mI_N_host mS_N_host mZ_N mC_N_host) rfl rfl rfl dd_N_host ⟨(Nat.le_of_ble_eq_true rfl), (Nat.le_of_ble_eq_true rfl)⟩ 0 rfl rfl rfl rfl (Nat.le_of_ble_eq_true rfl) dL_law_225 ?_
    refine jq_aload_n (pc := 228) hF 1 dL_law_228 rfl ?_
    refine jq_aload_n (pc := 229) hF 3 dL_law_229 rfl ?_
    refine jq_iload_n (pc := 230) hF 0 dL_law_230 rfl ?_
    refine jq_iconst (pc := 231) hF dL_law_231 ic_1 ?_
    refine jq_iaddN (pc := 232) hF dL_law_232 ?_
    refine jq_sld (pc := 233) hF hX (by omega) (by omega) dL_law_233 ?_
    refine jq_aload_n (pc := 234) hF 3 dL_law_234 rfl ?_
    refine jq_iload_n (pc := 235) hF 0 dL_law_235 rfl ?_
    refine jq_iconst (pc := 236) hF dL_law_236 ic_2 ?_
    refine jq_iaddN (pc := 237) hF dL_law_237 ?_
    refine jq_sld (pc := 238) hF hX (by omega) (by omega) dL_law_238 ?_
    refine jq_cL (pc := 239) hF (As := [.int (xs (3 + 4 * k + 1)), .int (xs (3 + 4 * k + 2))]) (rest := [.int (if cHostB σ (xs (3 + 4 * k + 1)) (xs (3 + 4 * k + 2)) = true then σ 1 2 else -1)]) (List.range 30) ((List.range 35).map (· + 30)) (lcM1 a q cI cZ (if cHostB σ (xs (3 + 4 * k + 1)) (xs (3 + 4 * k + 2)) = true then cSettle (cAddHost σ (xs (3 + 4 * k + 1)) (xs (3 + 4 * k + 2))) else σ) τ) (lcM2 a q cI cZ (if cHostB σ (xs (3 + 4 * k + 1)) (xs (3 + 4 * k + 2)) = true then cSettle (cAddHost σ (xs (3 + 4 * k + 1)) (xs (3 + 4 * k + 2))) else σ) τ) (by decide) (lcM3 a q cI cZ (if cHostB σ (xs (3 + 4 * k + 1)) (xs (3 + 4 * k + 2)) = true then cSettle (cAddHost σ (xs (3 + 4 * k + 1)) (xs (3 + 4 * k + 2))) else σ) τ) (by decide) (by decide) (mM_host l D q cI cZ τ (xs (3 + 4 * k + 1)) (xs (3 + 4 * k + 2)) hJ) (jG_v mL_L_35 mI_M_host mS_M_host mZ_M mC_M_host) rfl rfl rfl dd_M_host ⟨(Nat.le_of_ble_eq_true rfl), (Nat.le_of_ble_eq_true rfl)⟩ 0 rfl rfl rfl rfl (Nat.le_of_ble_eq_true rfl) dL_law_239 ?_
    refine jq_icmp_eq (pc := 242) hF 688 dL_law_242 rfl (fun _ => ?_) (fun h9 => absurd ((hRR σ τ hs).2.2.2.2.1 (xs (3 + 4 * k + 1)) (xs (3 + 4 * k + 2))).1 h9)
    exact back _ _ ((hRR σ τ hs).2.2.2.2.1 (xs (3 + 4 * k + 1)) (xs (3 + 4 * k + 2))).2 _ rfl
  · refine jq_tabIn (pc := 62) hF 247 dL_law_62 (by decide) (by decide) (off := 185) (by decide) rfl ?_
    refine jq_aload_n (pc := 247) hF 2 dL_law_247 rfl ?_
    refine jq_aload_n (pc := 248) hF 3 dL_law_248 rfl ?_
    refine jq_iload_n (pc := 249) hF 0 dL_law_249 rfl ?_
    refine jq_iconst (pc := 250) hF dL_law_250 ic_1 ?_
    refine jq_iaddN (pc := 251) hF dL_law_251 ?_
    refine jq_sld (pc := 252) hF hX (by omega) (by omega) dL_law_252 ?_
    refine jq_cL (pc := 253) hF (As := [.int (xs (3 + 4 * k + 1))]) (rest := []) (List.range 35) ((List.range 30).map (· + 35)) (lcC1 a q cI cZ σ τ) (lcC2 a q cI cZ σ τ) (by decide) (lcC3 a q cI cZ σ τ) (by decide) (by decide) (mN_router l D a cI cZ σ (xs (3 + 4 * k + 1)) hI) (jG_v mL_L_36 mI_N_router mS_N_router mZ_N mC_N_router) rfl rfl rfl dd_N_router ⟨(Nat.le_of_ble_eq_true rfl), (Nat.le_of_ble_eq_true rfl)⟩ 0 rfl rfl rfl rfl (Nat.le_of_ble_eq_true rfl) dL_law_253 ?_
    refine jq_aload_n (pc := 256) hF 1 dL_law_256 rfl ?_
    refine jq_aload_n (pc := 257) hF 3 dL_law_257 rfl ?_
    refine jq_iload_n (pc := 258) hF 0 dL_law_258 rfl ?_
    refine jq_iconst (pc := 259) hF dL_law_259 ic_1 ?_
    refine jq_iaddN (pc := 260) hF dL_law_260 ?_
    refine jq_sld (pc := 261) hF hX (by omega) (by omega) dL_law_261 ?_
    refine jq_cL (pc := 262) hF (As := [.int (xs (3 + 4 * k + 1))]) (rest := [.int (bI (cRouterB σ (xs (3 + 4 * k + 1))))]) (List.range 30) ((List.range 35).map (· + 30)) (lcM1 a q cI cZ (if cRouterB σ (xs (3 + 4 * k + 1)) = true then cSettle (cAddRouter σ (xs (3 + 4 * k + 1))) else σ) τ) (lcM2 a q cI cZ (if cRouterB σ (xs (3 + 4 * k + 1)) = true then cSettle (cAddRouter σ (xs (3 + 4 * k + 1))) else σ) τ) (by decide) (lcM3 a q cI cZ (if cRouterB σ (xs (3 + 4 * k + 1)) = true then cSettle (cAddRouter σ (xs (3 + 4 * k + 1))) else σ) τ) (by decide) (by decide) (mM_router l D q cI cZ τ (xs (3 + 4 * k + 1)) hJ) (jG_v mL_L_40 mI_M_router mS_M_router mZ_M mC_M_router) rfl rfl rfl dd_M_router ⟨(Nat.le_of_ble_eq_true rfl), (Nat.le_of_ble_eq_true rfl)⟩ 0 rfl rfl rfl rfl (Nat.le_of_ble_eq_true rfl) dL_law_262 ?_
    refine jq_icmp_eq (pc := 265) hF 688 dL_law_265 rfl (fun _ => ?_) (fun h9 => absurd ((hRR σ τ hs).2.2.2.2.2.1 (xs (3 + 4 * k + 1))).1 h9)
    exact back _ _ ((hRR σ τ hs).2.2.2.2.2.1 (xs (3 + 4 * k + 1))).2 _ rfl
  · refine jq_tabIn (pc := 62) hF 270 dL_law_62 (by decide) (by decide) (off := 208) (by decide) rfl ?_
    refine jq_aload_n (pc := 270) hF 2 dL_law_270 rfl ?_
    refine jq_aload_n (pc := 271) hF 3 dL_law_271 rfl ?_
    refine jq_iload_n (pc := 272) hF 0 dL_law_272 rfl ?_
    refine jq_iconst (pc := 273) hF dL_law_273 ic_1 ?_
    refine jq_iaddN (pc := 274) hF dL_law_274 ?_
    refine jq_sld (pc := 275) hF hX (by omega) (by omega) dL_law_275 ?_
    refine jq_aload_n (pc := 276) hF 3 dL_law_276 rfl ?_
    refine jq_iload_n (pc := 277) hF 0 dL_law_277 rfl ?_
    refine jq_iconst (pc := 278) hF dL_law_278 ic_2 ?_
    refine jq_iaddN (pc := 279) hF dL_law_279 ?_
    refine jq_sld (pc := 280) hF hX (by omega) (by omega) dL_law_280 ?_
    refine jq_cL (pc := 281) hF (As := [.int (xs (3 + 4 * k + 1)), .int (xs (3 + 4 * k + 2))]) (rest := []) (List.range 35) ((List.range 30).map (· + 35)) (lcC1 a q cI cZ σ τ) (lcC2 a q cI cZ σ τ) (by decide) (lcC3 a q cI cZ σ τ) (by decide) (by decide) (mN_access l D a cI cZ σ (xs (3 + 4 * k + 1)) (xs (3 + 4 * k + 2)) hI) (jG_v mL_L_41 mI_N_access mS_N_access mZ_N mC_N_access) rfl rfl rfl dd_N_access ⟨(Nat.le_of_ble_eq_true rfl), (Nat.le_of_ble_eq_true rfl)⟩ 0 rfl rfl rfl rfl (Nat.le_of_ble_eq_true rfl) dL_law_281 ?_
    refine jq_aload_n (pc := 284) hF 1 dL_law_284 rfl ?_
    refine jq_aload_n (pc := 285) hF 3 dL_law_285 rfl ?_
    refine jq_iload_n (pc := 286) hF 0 dL_law_286 rfl ?_
    refine jq_iconst (pc := 287) hF dL_law_287 ic_1 ?_
    refine jq_iaddN (pc := 288) hF dL_law_288 ?_
    refine jq_sld (pc := 289) hF hX (by omega) (by omega) dL_law_289 ?_
    refine jq_aload_n (pc := 290) hF 3 dL_law_290 rfl ?_
    refine jq_iload_n (pc := 291) hF 0 dL_law_291 rfl ?_
    refine jq_iconst (pc := 292) hF dL_law_292 ic_2 ?_
    refine jq_iaddN (pc := 293) hF dL_law_293 ?_
    refine jq_sld (pc := 294) hF hX (by omega) (by omega) dL_law_294 ?_
    refine jq_cL (pc := 295) hF (As := [.int (xs (3 + 4 * k + 1)), .int (xs (3 + 4 * k + 2))]) (rest := [.int (bI (cAccessB σ (xs (3 + 4 * k + 1)) (xs (3 + 4 * k + 2))))]) (List.range 30) ((List.range 35).map (· + 30)) (lcM1 a q cI cZ (if cAccessB σ (xs (3 + 4 * k + 1)) (xs (3 + 4 * k + 2)) = true then cAccess σ (xs (3 + 4 * k + 1)) (xs (3 + 4 * k + 2)) else σ) τ) (lcM2 a q cI cZ (if cAccessB σ (xs (3 + 4 * k + 1)) (xs (3 + 4 * k + 2)) = true then cAccess σ (xs (3 + 4 * k + 1)) (xs (3 + 4 * k + 2)) else σ) τ) (by decide) (lcM3 a q cI cZ (if cAccessB σ (xs (3 + 4 * k + 1)) (xs (3 + 4 * k + 2)) = true then cAccess σ (xs (3 + 4 * k + 1)) (xs (3 + 4 * k + 2)) else σ) τ) (by decide) (by decide) (mM_access l D q cI cZ τ (xs (3 + 4 * k + 1)) (xs (3 + 4 * k + 2)) hJ) (jG_v mL_L_45 mI_M_access mS_M_access mZ_M mC_M_access) rfl rfl rfl dd_M_access ⟨(Nat.le_of_ble_eq_true rfl), (Nat.le_of_ble_eq_true rfl)⟩ 0 rfl rfl rfl rfl (Nat.le_of_ble_eq_true rfl) dL_law_295 ?_
    refine jq_icmp_eq (pc := 298) hF 688 dL_law_298 rfl (fun _ => ?_) (fun h9 => absurd ((hRR σ τ hs).2.2.2.2.2.2.1 (xs (3 + 4 * k + 1)) (xs (3 + 4 * k + 2))).1 h9)
    exact back _ _ ((hRR σ τ hs).2.2.2.2.2.2.1 (xs (3 + 4 * k + 1)) (xs (3 + 4 * k + 2))).2 _ rfl
  · refine jq_tabIn (pc := 62) hF 303 dL_law_62 (by decide) (by decide) (off := 241) (by decide) rfl ?_
    refine jq_aload_n (pc := 303) hF 2 dL_law_303 rfl ?_
    refine jq_aload_n (pc := 304) hF 3 dL_law_304 rfl ?_
    refine jq_iload_n (pc := 305) hF 0 dL_law_305 rfl ?_
    refine jq_iconst (pc := 306) hF dL_law_306 ic_1 ?_
    refine jq_iaddN (pc := 307) hF dL_law_307 ?_
    refine jq_sld (pc := 308) hF hX (by omega) (by omega) dL_law_308 ?_
    refine jq_aload_n (pc := 309) hF 3 dL_law_309 rfl ?_
    refine jq_iload_n (pc := 310) hF 0 dL_law_310 rfl ?_
    refine jq_iconst (pc := 311) hF dL_law_311 ic_2 ?_
    refine jq_iaddN (pc := 312) hF dL_law_312 ?_
    refine jq_sld (pc := 313) hF hX (by omega) (by omega) dL_law_313 ?_
    refine jq_aload_n (pc := 314) hF 3 dL_law_314 rfl ?_
    refine jq_iload_n (pc := 315) hF 0 dL_law_315 rfl ?_
    refine jq_iconst (pc := 316) hF dL_law_316 ic_3 ?_
    refine jq_iaddN (pc := 317) hF dL_law_317 ?_
    refine jq_sld (pc := 318) hF hX (by omega) (by omega) dL_law_318 ?_
    refine jq_cL (pc := 319) hF (As := [.int (xs (3 + 4 * k + 1)), .int (xs (3 + 4 * k + 2)), .int (xs (3 + 4 * k + 3))]) (rest := []) (List.range 35) ((List.range 30).map (· + 35)) (lcC1 a q cI cZ σ τ) (lcC2 a q cI cZ σ τ) (by decide) (lcC3 a q cI cZ σ τ) (by decide) (by decide) (mN_trunk l D a cI cZ σ (xs (3 + 4 * k + 1)) (xs (3 + 4 * k + 2)) (xs (3 + 4 * k + 3)) hI) (jG_v mL_L_46 mI_N_trunk mS_N_trunk mZ_N mC_N_trunk) rfl rfl rfl dd_N_trunk ⟨(Nat.le_of_ble_eq_true rfl), (Nat.le_of_ble_eq_true rfl)⟩ 0 rfl rfl rfl rfl (Nat.le_of_ble_eq_true rfl) dL_law_319 ?_
    refine jq_aload_n (pc := 322) hF 1 dL_law_322 rfl ?_
    refine jq_aload_n (pc := 323) hF 3 dL_law_323 rfl ?_
    refine jq_iload_n (pc := 324) hF 0 dL_law_324 rfl ?_
    refine jq_iconst (pc := 325) hF dL_law_325 ic_1 ?_
    refine jq_iaddN (pc := 326) hF dL_law_326 ?_
    refine jq_sld (pc := 327) hF hX (by omega) (by omega) dL_law_327 ?_
    refine jq_aload_n (pc := 328) hF 3 dL_law_328 rfl ?_
    refine jq_iload_n (pc := 329) hF 0 dL_law_329 rfl ?_
    refine jq_iconst (pc := 330) hF dL_law_330 ic_2 ?_
    refine jq_iaddN (pc := 331) hF dL_law_331 ?_
    refine jq_sld (pc := 332) hF hX (by omega) (by omega) dL_law_332 ?_
    refine jq_aload_n (pc := 333) hF 3 dL_law_333 rfl ?_
    refine jq_iload_n (pc := 334) hF 0 dL_law_334 rfl ?_
    refine jq_iconst (pc := 335) hF dL_law_335 ic_3 ?_
    refine jq_iaddN (pc := 336) hF dL_law_336 ?_
    refine jq_sld (pc := 337) hF hX (by omega) (by omega) dL_law_337 ?_
    refine jq_cL (pc := 338) hF (As := [.int (xs (3 + 4 * k + 1)), .int (xs (3 + 4 * k + 2)), .int (xs (3 + 4 * k + 3))]) (rest := [.int (bI (cTrunkB σ (xs (3 + 4 * k + 1)) (xs (3 + 4 * k + 2)) (xs (3 + 4 * k + 3))))]) (List.range 30) ((List.range 35).map (· + 30)) (lcM1 a q cI cZ (if cTrunkB σ (xs (3 + 4 * k + 1)) (xs (3 + 4 * k + 2)) (xs (3 + 4 * k + 3)) = true then cTrunk σ (xs (3 + 4 * k + 1)) (xs (3 + 4 * k + 2)) (xs (3 + 4 * k + 3)) else σ) τ) (lcM2 a q cI cZ (if cTrunkB σ (xs (3 + 4 * k + 1)) (xs (3 + 4 * k + 2)) (xs (3 + 4 * k + 3)) = true then cTrunk σ (xs (3 + 4 * k + 1)) (xs (3 + 4 * k + 2)) (xs (3 + 4 * k + 3)) else σ) τ) (by decide) (lcM3 a q cI cZ (if cTrunkB σ (xs (3 + 4 * k + 1)) (xs (3 + 4 * k + 2)) (xs (3 + 4 * k + 3)) = true then cTrunk σ (xs (3 + 4 * k + 1)) (xs (3 + 4 * k + 2)) (xs (3 + 4 * k + 3)) else σ) τ) (by decide) (by decide) (mM_trunk l D q cI cZ τ (xs (3 + 4 * k + 1)) (xs (3 + 4 * k + 2)) (xs (3 + 4 * k + 3)) hJ) (jG_v mL_L_50 mI_M_trunk mS_M_trunk mZ_M mC_M_trunk) rfl rfl rfl dd_M_trunk ⟨(Nat.le_of_ble_eq_true rfl), (Nat.le_of_ble_eq_true rfl)⟩ 0 rfl rfl rfl rfl (Nat.le_of_ble_eq_true rfl) dL_law_338 ?_
    refine jq_icmp_eq (pc := 341) hF 688 dL_law_341 rfl (fun _ => ?_) (fun h9 => absurd ((hRR σ τ hs).2.2.2.2.2.2.2.1 (xs (3 + 4 * k + 1)) (xs (3 + 4 * k + 2)) (xs (3 + 4 * k + 3))).1 h9)
    exact back _ _ ((hRR σ τ hs).2.2.2.2.2.2.2.1 (xs (3 + 4 * k + 1)) (xs (3 + 4 * k + 2)) (xs (3 + 4 * k + 3))).2 _ rfl
  · refine jq_tabIn (pc := 62) hF 346 dL_law_62 (by decide) (by decide) (off := 284) (by decide) rfl ?_
    refine jq_aload_n (pc := 346) hF 2 dL_law_346 rfl ?_
    refine jq_aload_n (pc := 347) hF 3 dL_law_347 rfl ?_
    refine jq_iload_n (pc := 348) hF 0 dL_law_348 rfl ?_
    refine jq_iconst (pc := 349) hF dL_law_349 ic_1 ?_
    refine jq_iaddN (pc := 350) hF dL_law_350 ?_
    refine jq_sld (pc := 351) hF hX (by omega) (by omega) dL_law_351 ?_
    refine jq_aload_n (pc := 352) hF 3 dL_law_352 rfl ?_
    refine jq_iload_n (pc := 353) hF 0 dL_law_353 rfl ?_
    refine jq_iconst (pc := 354) hF dL_law_354 ic_2 ?_
    refine jq_iaddN (pc := 355) hF dL_law_355 ?_
    refine jq_sld (pc := 356) hF hX (by omega) (by omega) dL_law_356 ?_
    refine jq_if_eq (pc := 357) hF 364 dL_law_357 rfl (fun hz357 => ?_) (fun hz357 => ?_)
    · refine jq_iconst (pc := 364) hF dL_law_364 ic_0 ?_
      refine jq_top (bI (false)) (by decide +kernel) ?_
      refine jq_cL (pc := 365) hF (As := [.int (xs (3 + 4 * k + 1)), .int (bI (false))]) (rest := []) (List.range 35) ((List.range 30).map (· + 35)) (lcC1 a q cI cZ σ τ) (lcC2 a q cI cZ σ τ) (by decide) (lcC3 a q cI cZ σ τ) (by decide) (by decide) (mN_cut l D a cI cZ σ (xs (3 + 4 * k + 1)) (false) hI) (jG_v mL_L_51 mI_N_cut mS_N_cut mZ_N mC_N_cut) rfl rfl rfl dd_N_cut ⟨(Nat.le_of_ble_eq_true rfl), (Nat.le_of_ble_eq_true rfl)⟩ 0 rfl rfl rfl rfl (Nat.le_of_ble_eq_true rfl) dL_law_365 ?_
      refine jq_aload_n (pc := 368) hF 1 dL_law_368 rfl ?_
      refine jq_aload_n (pc := 369) hF 3 dL_law_369 rfl ?_
      refine jq_iload_n (pc := 370) hF 0 dL_law_370 rfl ?_
      refine jq_iconst (pc := 371) hF dL_law_371 ic_1 ?_
      refine jq_iaddN (pc := 372) hF dL_law_372 ?_
      refine jq_sld (pc := 373) hF hX (by omega) (by omega) dL_law_373 ?_
      refine jq_aload_n (pc := 374) hF 3 dL_law_374 rfl ?_
      refine jq_iload_n (pc := 375) hF 0 dL_law_375 rfl ?_
      refine jq_iconst (pc := 376) hF dL_law_376 ic_2 ?_
      refine jq_iaddN (pc := 377) hF dL_law_377 ?_
      refine jq_sld (pc := 378) hF hX (by omega) (by omega) dL_law_378 ?_
      refine jq_if_eq (pc := 379) hF 386 dL_law_379 rfl (fun hz379 => ?_) (fun hz379 => ?_)
      · refine jq_iconst (pc := 386) hF dL_law_386 ic_0 ?_
        refine jq_top (bI (false)) (by decide +kernel) ?_
        refine jq_cL (pc := 387) hF (As := [.int (xs (3 + 4 * k + 1)), .int (bI (false))]) (rest := [.int (bI (cCutB σ (xs (3 + 4 * k + 1)) (false)))]) (List.range 30) ((List.range 35).map (· + 30)) (lcM1 a q cI cZ (if cCutB σ (xs (3 + 4 * k + 1)) (false) = true then cCutS σ (xs (3 + 4 * k + 1)) (false) else σ) τ) (lcM2 a q cI cZ (if cCutB σ (xs (3 + 4 * k + 1)) (false) = true then cCutS σ (xs (3 + 4 * k + 1)) (false) else σ) τ) (by decide) (lcM3 a q cI cZ (if cCutB σ (xs (3 + 4 * k + 1)) (false) = true then cCutS σ (xs (3 + 4 * k + 1)) (false) else σ) τ) (by decide) (by decide) (mM_cut l D q cI cZ τ (xs (3 + 4 * k + 1)) (false) hJ) (jG_v mL_L_55 mI_M_cut mS_M_cut mZ_M mC_M_cut) rfl rfl rfl dd_M_cut ⟨(Nat.le_of_ble_eq_true rfl), (Nat.le_of_ble_eq_true rfl)⟩ 0 rfl rfl rfl rfl (Nat.le_of_ble_eq_true rfl) dL_law_387 ?_
        refine jq_icmp_eq (pc := 390) hF 688 dL_law_390 rfl (fun _ => ?_) (fun h9 => absurd ((hRR σ τ hs).2.2.2.2.2.2.2.2.1 (xs (3 + 4 * k + 1)) (false)).1 h9)
        exact back _ _ ((hRR σ τ hs).2.2.2.2.2.2.2.2.1 (xs (3 + 4 * k + 1)) (false)).2 _ rfl
      · exact absurd hz357 hz379
    · refine jq_iconst (pc := 360) hF dL_law_360 ic_1 ?_
      refine jq_goto (pc := 361) hF 365 dL_law_361 rfl ?_
      refine jq_top (bI (true)) (by decide +kernel) ?_
      refine jq_cL (pc := 365) hF (As := [.int (xs (3 + 4 * k + 1)), .int (bI (true))]) (rest := []) (List.range 35) ((List.range 30).map (· + 35)) (lcC1 a q cI cZ σ τ) (lcC2 a q cI cZ σ τ) (by decide) (lcC3 a q cI cZ σ τ) (by decide) (by decide) (mN_cut l D a cI cZ σ (xs (3 + 4 * k + 1)) (true) hI) (jG_v mL_L_51 mI_N_cut mS_N_cut mZ_N mC_N_cut) rfl rfl rfl dd_N_cut ⟨(Nat.le_of_ble_eq_true rfl), (Nat.le_of_ble_eq_true rfl)⟩ 0 rfl rfl rfl rfl (Nat.le_of_ble_eq_true rfl) dL_law_365 ?_
      refine jq_aload_n (pc := 368) hF 1 dL_law_368 rfl ?_
      refine jq_aload_n (pc := 369) hF 3 dL_law_369 rfl ?_
      refine jq_iload_n (pc := 370) hF 0 dL_law_370 rfl ?_
      refine jq_iconst (pc := 371) hF dL_law_371 ic_1 ?_
      refine jq_iaddN (pc := 372) hF dL_law_372 ?_
      refine jq_sld (pc := 373) hF hX (by omega) (by omega) dL_law_373 ?_
      refine jq_aload_n (pc := 374) hF 3 dL_law_374 rfl ?_
      refine jq_iload_n (pc := 375) hF 0 dL_law_375 rfl ?_
      refine jq_iconst (pc := 376) hF dL_law_376 ic_2 ?_
      refine jq_iaddN (pc := 377) hF dL_law_377 ?_
      refine jq_sld (pc := 378) hF hX (by omega) (by omega) dL_law_378 ?_
      refine jq_if_eq (pc := 379) hF 386 dL_law_379 rfl (fun hz379 => ?_) (fun hz379 => ?_)
      · exact absurd hz379 hz357
      · refine jq_iconst (pc := 382) hF dL_law_382 ic_1 ?_
        refine jq_goto (pc := 383) hF 387 dL_law_383 rfl ?_
        refine jq_top (bI (true)) (by decide +kernel) ?_
        refine jq_cL (pc := 387) hF (As := [.int (xs (3 + 4 * k + 1)), .int (bI (true))]) (rest := [.int (bI (cCutB σ (xs (3 + 4 * k + 1)) (true)))]) (List.range 30) ((List.range 35).map (· + 30)) (lcM1 a q cI cZ (if cCutB σ (xs (3 + 4 * k + 1)) (true) = true then cCutS σ (xs (3 + 4 * k + 1)) (true) else σ) τ) (lcM2 a q cI cZ (if cCutB σ (xs (3 + 4 * k + 1)) (true) = true then cCutS σ (xs (3 + 4 * k + 1)) (true) else σ) τ) (by decide) (lcM3 a q cI cZ (if cCutB σ (xs (3 + 4 * k + 1)) (true) = true then cCutS σ (xs (3 + 4 * k + 1)) (true) else σ) τ) (by decide) (by decide) (mM_cut l D q cI cZ τ (xs (3 + 4 * k + 1)) (true) hJ) (jG_v mL_L_55 mI_M_cut mS_M_cut mZ_M mC_M_cut) rfl rfl rfl dd_M_cut ⟨(Nat.le_of_ble_eq_true rfl), (Nat.le_of_ble_eq_true rfl)⟩ 0 rfl rfl rfl rfl (Nat.le_of_ble_eq_true rfl) dL_law_387 ?_
        refine jq_icmp_eq (pc := 390) hF 688 dL_law_390 rfl (fun _ => ?_) (fun h9 => absurd ((hRR σ τ hs).2.2.2.2.2.2.2.2.1 (xs (3 + 4 * k + 1)) (true)).1 h9)
        exact back _ _ ((hRR σ τ hs).2.2.2.2.2.2.2.2.1 (xs (3 + 4 * k + 1)) (true)).2 _ rfl
  · refine jq_tabIn (pc := 62) hF 395 dL_law_62 (by decide) (by decide) (off := 333) (by decide) rfl ?_
    refine jq_aload_n (pc := 395) hF 2 dL_law_395 rfl ?_
    refine jq_aload_n (pc := 396) hF 3 dL_law_396 rfl ?_
    refine jq_iload_n (pc := 397) hF 0 dL_law_397 rfl ?_
    refine jq_iconst (pc := 398) hF dL_law_398 ic_1 ?_
    refine jq_iaddN (pc := 399) hF dL_law_399 ?_
    refine jq_sld (pc := 400) hF hX (by omega) (by omega) dL_law_400 ?_
    refine jq_cL (pc := 401) hF (As := [.int (xs (3 + 4 * k + 1))]) (rest := []) (List.range 35) ((List.range 30).map (· + 35)) (lcC1 a q cI cZ σ τ) (lcC2 a q cI cZ σ τ) (by decide) (lcC3 a q cI cZ σ τ) (by decide) (by decide) (mN_tick l D a cI cZ σ (xs (3 + 4 * k + 1)) hI) (jG_v mL_L_56 mI_N_tick mS_N_tick mZ_N mC_N_tick) rfl rfl rfl dd_N_tick ⟨(Nat.le_of_ble_eq_true rfl), (Nat.le_of_ble_eq_true rfl)⟩ 0 rfl rfl rfl rfl (Nat.le_of_ble_eq_true rfl) dL_law_401 ?_
    refine jq_aload_n (pc := 404) hF 1 dL_law_404 rfl ?_
    refine jq_aload_n (pc := 405) hF 3 dL_law_405 rfl ?_
    refine jq_iload_n (pc := 406) hF 0 dL_law_406 rfl ?_
    refine jq_iconst (pc := 407) hF dL_law_407 ic_1 ?_
    refine jq_iaddN (pc := 408) hF dL_law_408 ?_
    refine jq_sld (pc := 409) hF hX (by omega) (by omega) dL_law_409 ?_
    refine jq_cL (pc := 410) hF (As := [.int (xs (3 + 4 * k + 1))]) (rest := [.int (if cWithin (xs (3 + 4 * k + 1)) (nI 0) (nI 60) = true then (cTicks σ ((xs (3 + 4 * k + 1))).toNatClampNeg) 3 2 else -1)]) (List.range 30) ((List.range 35).map (· + 30)) (lcM1 a q cI cZ (if cWithin (xs (3 + 4 * k + 1)) (nI 0) (nI 60) = true then cTicks σ ((xs (3 + 4 * k + 1))).toNatClampNeg else σ) τ) (lcM2 a q cI cZ (if cWithin (xs (3 + 4 * k + 1)) (nI 0) (nI 60) = true then cTicks σ ((xs (3 + 4 * k + 1))).toNatClampNeg else σ) τ) (by decide) (lcM3 a q cI cZ (if cWithin (xs (3 + 4 * k + 1)) (nI 0) (nI 60) = true then cTicks σ ((xs (3 + 4 * k + 1))).toNatClampNeg else σ) τ) (by decide) (by decide) (mM_tick l D q cI cZ τ (xs (3 + 4 * k + 1)) hJ) (jG_v mL_L_59 mI_M_tick mS_M_tick mZ_M mC_M_tick) rfl rfl rfl dd_M_tick ⟨(Nat.le_of_ble_eq_true rfl), (Nat.le_of_ble_eq_true rfl)⟩ 0 rfl rfl rfl rfl (Nat.le_of_ble_eq_true rfl) dL_law_410 ?_
    refine jq_icmp_eq (pc := 413) hF 688 dL_law_413 rfl (fun _ => ?_) (fun h9 => absurd ((hRR σ τ hs).2.2.2.2.2.2.2.2.2.1 (xs (3 + 4 * k + 1))).1 h9)
    exact back _ _ ((hRR σ τ hs).2.2.2.2.2.2.2.2.2.1 (xs (3 + 4 * k + 1))).2 _ rfl
  · refine jq_tabIn (pc := 62) hF 418 dL_law_62 (by decide) (by decide) (off := 356) (by decide) rfl ?_
    refine jq_aload_n (pc := 418) hF 2 dL_law_418 rfl ?_
    refine jq_aload_n (pc := 419) hF 3 dL_law_419 rfl ?_
    refine jq_iload_n (pc := 420) hF 0 dL_law_420 rfl ?_
    refine jq_iconst (pc := 421) hF dL_law_421 ic_1 ?_
    refine jq_iaddN (pc := 422) hF dL_law_422 ?_
    refine jq_sld (pc := 423) hF hX (by omega) (by omega) dL_law_423 ?_
    refine jq_cL (pc := 424) hF (As := [.int (xs (3 + 4 * k + 1))]) (rest := []) (List.range 35) ((List.range 30).map (· + 35)) (lcC1 a q cI cZ σ τ) (lcC2 a q cI cZ σ τ) (by decide) (lcC3 a q cI cZ σ τ) (by decide) (by decide) (mN_role l D a cI cZ σ (xs (3 + 4 * k + 1)) hI) (jG_v mL_L_60 mI_N_role mS_N_role mZ_N mC_N_role) rfl rfl rfl dd_N_role ⟨(Nat.le_of_ble_eq_true rfl), (Nat.le_of_ble_eq_true rfl)⟩ 0 rfl rfl rfl rfl (Nat.le_of_ble_eq_true rfl) dL_law_424 ?_
    refine jq_aload_n (pc := 427) hF 1 dL_law_427 rfl ?_
    refine jq_aload_n (pc := 428) hF 3 dL_law_428 rfl ?_
    refine jq_iload_n (pc := 429) hF 0 dL_law_429 rfl ?_
    refine jq_iconst (pc := 430) hF dL_law_430 ic_1 ?_
    refine jq_iaddN (pc := 431) hF dL_law_431 ?_
    refine jq_sld (pc := 432) hF hX (by omega) (by omega) dL_law_432 ?_
    refine jq_cL (pc := 433) hF (As := [.int (xs (3 + 4 * k + 1))]) (rest := [.int (if cIsPlace σ (xs (3 + 4 * k + 1)) = true then σ 25 ((xs (3 + 4 * k + 1))).toNatClampNeg else -1)]) (List.range 30) ((List.range 35).map (· + 30)) (lcM1 a q cI cZ (σ) τ) (lcM2 a q cI cZ (σ) τ) (by decide) (lcM3 a q cI cZ (σ) τ) (by decide) (by decide) (mM_role l D q cI cZ τ (xs (3 + 4 * k + 1)) hJ) (jG_v mL_L_63 mI_M_role mS_M_role mZ_M mC_M_role) rfl rfl rfl dd_M_role ⟨(Nat.le_of_ble_eq_true rfl), (Nat.le_of_ble_eq_true rfl)⟩ 0 rfl rfl rfl rfl (Nat.le_of_ble_eq_true rfl) dL_law_433 ?_
    refine jq_icmp_eq (pc := 436) hF 688 dL_law_436 rfl (fun _ => ?_) (fun h9 => absurd ((hRR σ τ hs).2.2.2.2.2.2.2.2.2.2.1 (xs (3 + 4 * k + 1))).1 h9)
    exact back _ _ ((hRR σ τ hs).2.2.2.2.2.2.2.2.2.2.1 (xs (3 + 4 * k + 1))).2 _ rfl
  · refine jq_tabIn (pc := 62) hF 441 dL_law_62 (by decide) (by decide) (off := 379) (by decide) rfl ?_
    refine jq_aload_n (pc := 441) hF 2 dL_law_441 rfl ?_
    refine jq_aload_n (pc := 442) hF 3 dL_law_442 rfl ?_
    refine jq_iload_n (pc := 443) hF 0 dL_law_443 rfl ?_
    refine jq_iconst (pc := 444) hF dL_law_444 ic_1 ?_
    refine jq_iaddN (pc := 445) hF dL_law_445 ?_
    refine jq_sld (pc := 446) hF hX (by omega) (by omega) dL_law_446 ?_
    refine jq_cL (pc := 447) hF (As := [.int (xs (3 + 4 * k + 1))]) (rest := []) (List.range 35) ((List.range 30).map (· + 35)) (lcC1 a q cI cZ σ τ) (lcC2 a q cI cZ σ τ) (by decide) (lcC3 a q cI cZ σ τ) (by decide) (by decide) (mN_state l D a cI cZ σ (xs (3 + 4 * k + 1)) hI) (jG_v mL_L_64 mI_N_state mS_N_state mZ_N mC_N_state) rfl rfl rfl dd_N_state ⟨(Nat.le_of_ble_eq_true rfl), (Nat.le_of_ble_eq_true rfl)⟩ 0 rfl rfl rfl rfl (Nat.le_of_ble_eq_true rfl) dL_law_447 ?_
    refine jq_aload_n (pc := 450) hF 1 dL_law_450 rfl ?_
    refine jq_aload_n (pc := 451) hF 3 dL_law_451 rfl ?_
    refine jq_iload_n (pc := 452) hF 0 dL_law_452 rfl ?_
    refine jq_iconst (pc := 453) hF dL_law_453 ic_1 ?_
    refine jq_iaddN (pc := 454) hF dL_law_454 ?_
    refine jq_sld (pc := 455) hF hX (by omega) (by omega) dL_law_455 ?_
    refine jq_cL (pc := 456) hF (As := [.int (xs (3 + 4 * k + 1))]) (rest := [.int (if cIsPlace σ (xs (3 + 4 * k + 1)) = true then σ 27 ((xs (3 + 4 * k + 1))).toNatClampNeg else -1)]) (List.range 30) ((List.range 35).map (· + 30)) (lcM1 a q cI cZ (σ) τ) (lcM2 a q cI cZ (σ) τ) (by decide) (lcM3 a q cI cZ (σ) τ) (by decide) (by decide) (mM_state l D q cI cZ τ (xs (3 + 4 * k + 1)) hJ) (jG_v mL_L_67 mI_M_state mS_M_state mZ_M mC_M_state) rfl rfl rfl dd_M_state ⟨(Nat.le_of_ble_eq_true rfl), (Nat.le_of_ble_eq_true rfl)⟩ 0 rfl rfl rfl rfl (Nat.le_of_ble_eq_true rfl) dL_law_456 ?_
    refine jq_icmp_eq (pc := 459) hF 688 dL_law_459 rfl (fun _ => ?_) (fun h9 => absurd ((hRR σ τ hs).2.2.2.2.2.2.2.2.2.2.2.1 (xs (3 + 4 * k + 1))).1 h9)
    exact back _ _ ((hRR σ τ hs).2.2.2.2.2.2.2.2.2.2.2.1 (xs (3 + 4 * k + 1))).2 _ rfl
  · refine jq_tabIn (pc := 62) hF 464 dL_law_62 (by decide) (by decide) (off := 402) (by decide) rfl ?_
    refine jq_aload_n (pc := 464) hF 2 dL_law_464 rfl ?_
    refine jq_aload_n (pc := 465) hF 3 dL_law_465 rfl ?_
    refine jq_iload_n (pc := 466) hF 0 dL_law_466 rfl ?_
    refine jq_iconst (pc := 467) hF dL_law_467 ic_1 ?_
    refine jq_iaddN (pc := 468) hF dL_law_468 ?_
    refine jq_sld (pc := 469) hF hX (by omega) (by omega) dL_law_469 ?_
    refine jq_cL (pc := 470) hF (As := [.int (xs (3 + 4 * k + 1))]) (rest := []) (List.range 35) ((List.range 30).map (· + 35)) (lcC1 a q cI cZ σ τ) (lcC2 a q cI cZ σ τ) (by decide) (lcC3 a q cI cZ σ τ) (by decide) (by decide) (mN_root l D a cI cZ σ (xs (3 + 4 * k + 1)) hI) (jG_v mL_L_68 mI_N_root mS_N_root mZ_N mC_N_root) rfl rfl rfl dd_N_root ⟨(Nat.le_of_ble_eq_true rfl), (Nat.le_of_ble_eq_true rfl)⟩ 0 rfl rfl rfl rfl (Nat.le_of_ble_eq_true rfl) dL_law_470 ?_
    refine jq_aload_n (pc := 473) hF 1 dL_law_473 rfl ?_
    refine jq_aload_n (pc := 474) hF 3 dL_law_474 rfl ?_
    refine jq_iload_n (pc := 475) hF 0 dL_law_475 rfl ?_
    refine jq_iconst (pc := 476) hF dL_law_476 ic_1 ?_
    refine jq_iaddN (pc := 477) hF dL_law_477 ?_
    refine jq_sld (pc := 478) hF hX (by omega) (by omega) dL_law_478 ?_
    refine jq_cL (pc := 479) hF (As := [.int (xs (3 + 4 * k + 1))]) (rest := [.int (if cIsBridge σ (xs (3 + 4 * k + 1)) = true then σ 22 ((xs (3 + 4 * k + 1))).toNatClampNeg * nI 2048 + σ 23 ((xs (3 + 4 * k + 1))).toNatClampNeg * nI 2 + bI (cMarked σ ((xs (3 + 4 * k + 1))).toNatClampNeg) else -1)]) (List.range 30) ((List.range 35).map (· + 30)) (lcM1 a q cI cZ (σ) τ) (lcM2 a q cI cZ (σ) τ) (by decide) (lcM3 a q cI cZ (σ) τ) (by decide) (by decide) (mM_root l D q cI cZ τ (xs (3 + 4 * k + 1)) hJ) (jG_v mL_L_71 mI_M_root mS_M_root mZ_M mC_M_root) rfl rfl rfl dd_M_root ⟨(Nat.le_of_ble_eq_true rfl), (Nat.le_of_ble_eq_true rfl)⟩ 0 rfl rfl rfl rfl (Nat.le_of_ble_eq_true rfl) dL_law_479 ?_
    refine jq_icmp_eq (pc := 482) hF 688 dL_law_482 rfl (fun _ => ?_) (fun h9 => absurd ((hRR σ τ hs).2.2.2.2.2.2.2.2.2.2.2.2.1 (xs (3 + 4 * k + 1))).1 h9)
    exact back _ _ ((hRR σ τ hs).2.2.2.2.2.2.2.2.2.2.2.2.1 (xs (3 + 4 * k + 1))).2 _ rfl
  · refine jq_tabIn (pc := 62) hF 487 dL_law_62 (by decide) (by decide) (off := 425) (by decide) rfl ?_
    refine jq_aload_n (pc := 487) hF 2 dL_law_487 rfl ?_
    refine jq_aload_n (pc := 488) hF 3 dL_law_488 rfl ?_
    refine jq_iload_n (pc := 489) hF 0 dL_law_489 rfl ?_
    refine jq_iconst (pc := 490) hF dL_law_490 ic_1 ?_
    refine jq_iaddN (pc := 491) hF dL_law_491 ?_
    refine jq_sld (pc := 492) hF hX (by omega) (by omega) dL_law_492 ?_
    refine jq_aload_n (pc := 493) hF 3 dL_law_493 rfl ?_
    refine jq_iload_n (pc := 494) hF 0 dL_law_494 rfl ?_
    refine jq_iconst (pc := 495) hF dL_law_495 ic_2 ?_
    refine jq_iaddN (pc := 496) hF dL_law_496 ?_
    refine jq_sld (pc := 497) hF hX (by omega) (by omega) dL_law_497 ?_
    refine jq_cL (pc := 498) hF (As := [.int (xs (3 + 4 * k + 1)), .int (xs (3 + 4 * k + 2))]) (rest := []) (List.range 35) ((List.range 30).map (· + 35)) (lcC1 a q cI cZ σ τ) (lcC2 a q cI cZ σ τ) (by decide) (lcC3 a q cI cZ σ τ) (by decide) (by decide) (mN_held l D a cI cZ σ (xs (3 + 4 * k + 1)) (xs (3 + 4 * k + 2)) hI) (jG_v mL_L_72 mI_N_held mS_N_held mZ_N mC_N_held) rfl rfl rfl dd_N_held ⟨(Nat.le_of_ble_eq_true rfl), (Nat.le_of_ble_eq_true rfl)⟩ 0 rfl rfl rfl rfl (Nat.le_of_ble_eq_true rfl) dL_law_498 ?_
    refine jq_aload_n (pc := 501) hF 1 dL_law_501 rfl ?_
    refine jq_aload_n (pc := 502) hF 3 dL_law_502 rfl ?_
    refine jq_iload_n (pc := 503) hF 0 dL_law_503 rfl ?_
    refine jq_iconst (pc := 504) hF dL_law_504 ic_1 ?_
    refine jq_iaddN (pc := 505) hF dL_law_505 ?_
    refine jq_sld (pc := 506) hF hX (by omega) (by omega) dL_law_506 ?_
    refine jq_aload_n (pc := 507) hF 3 dL_law_507 rfl ?_
    refine jq_iload_n (pc := 508) hF 0 dL_law_508 rfl ?_
    refine jq_iconst (pc := 509) hF dL_law_509 ic_2 ?_
    refine jq_iaddN (pc := 510) hF dL_law_510 ?_
    refine jq_sld (pc := 511) hF hX (by omega) (by omega) dL_law_511 ?_
    refine jq_cL (pc := 512) hF (As := [.int (xs (3 + 4 * k + 1)), .int (xs (3 + 4 * k + 2))]) (rest := [.int (if cHeldB σ (xs (3 + 4 * k + 1)) (xs (3 + 4 * k + 2)) = true then σ 18 (6 * ((xs (3 + 4 * k + 1))).toNatClampNeg + ((xs (3 + 4 * k + 2))).toNatClampNeg) else -1)]) (List.range 30) ((List.range 35).map (· + 30)) (lcM1 a q cI cZ (σ) τ) (lcM2 a q cI cZ (σ) τ) (by decide) (lcM3 a q cI cZ (σ) τ) (by decide) (by decide) (mM_held l D q cI cZ τ (xs (3 + 4 * k + 1)) (xs (3 + 4 * k + 2)) hJ) (jG_v mL_L_75 mI_M_held mS_M_held mZ_M mC_M_held) rfl rfl rfl dd_M_held ⟨(Nat.le_of_ble_eq_true rfl), (Nat.le_of_ble_eq_true rfl)⟩ 0 rfl rfl rfl rfl (Nat.le_of_ble_eq_true rfl) dL_law_512 ?_
    refine jq_icmp_eq (pc := 515) hF 688 dL_law_515 rfl (fun _ => ?_) (fun h9 => absurd ((hRR σ τ hs).2.2.2.2.2.2.2.2.2.2.2.2.2.1 (xs (3 + 4 * k + 1)) (xs (3 + 4 * k + 2))).1 h9)
    exact back _ _ ((hRR σ τ hs).2.2.2.2.2.2.2.2.2.2.2.2.2.1 (xs (3 + 4 * k + 1)) (xs (3 + 4 * k + 2))).2 _ rfl
  · refine jq_tabIn (pc := 62) hF 520 dL_law_62 (by decide) (by decide) (off := 458) (by decide) rfl ?_
    refine jq_aload_n (pc := 520) hF 2 dL_law_520 rfl ?_
    refine jq_aload_n (pc := 521) hF 3 dL_law_521 rfl ?_
    refine jq_iload_n (pc := 522) hF 0 dL_law_522 rfl ?_
    refine jq_iconst (pc := 523) hF dL_law_523 ic_1 ?_
    refine jq_iaddN (pc := 524) hF dL_law_524 ?_
    refine jq_sld (pc := 525) hF hX (by omega) (by omega) dL_law_525 ?_
    refine jq_aload_n (pc := 526) hF 3 dL_law_526 rfl ?_
    refine jq_iload_n (pc := 527) hF 0 dL_law_527 rfl ?_
    refine jq_iconst (pc := 528) hF dL_law_528 ic_2 ?_
    refine jq_iaddN (pc := 529) hF dL_law_529 ?_
    refine jq_sld (pc := 530) hF hX (by omega) (by omega) dL_law_530 ?_
    refine jq_aload_n (pc := 531) hF 3 dL_law_531 rfl ?_
    refine jq_iload_n (pc := 532) hF 0 dL_law_532 rfl ?_
    refine jq_iconst (pc := 533) hF dL_law_533 ic_3 ?_
    refine jq_iaddN (pc := 534) hF dL_law_534 ?_
    refine jq_sld (pc := 535) hF hX (by omega) (by omega) dL_law_535 ?_
    refine jq_cL (pc := 536) hF (As := [.int (xs (3 + 4 * k + 1)), .int (xs (3 + 4 * k + 2)), .int (xs (3 + 4 * k + 3))]) (rest := []) (List.range 35) ((List.range 30).map (· + 35)) (lcC1 a q cI cZ σ τ) (lcC2 a q cI cZ σ τ) (by decide) (lcC3 a q cI cZ σ τ) (by decide) (by decide) (mN_learned l D a cI cZ σ (xs (3 + 4 * k + 1)) (xs (3 + 4 * k + 2)) (xs (3 + 4 * k + 3)) hI) (jG_v mL_L_76 mI_N_learned mS_N_learned mZ_N mC_N_learned) rfl rfl rfl dd_N_learned ⟨(Nat.le_of_ble_eq_true rfl), (Nat.le_of_ble_eq_true rfl)⟩ 0 rfl rfl rfl rfl (Nat.le_of_ble_eq_true rfl) dL_law_536 ?_
    refine jq_aload_n (pc := 539) hF 1 dL_law_539 rfl ?_
    refine jq_aload_n (pc := 540) hF 3 dL_law_540 rfl ?_
    refine jq_iload_n (pc := 541) hF 0 dL_law_541 rfl ?_
    refine jq_iconst (pc := 542) hF dL_law_542 ic_1 ?_
    refine jq_iaddN (pc := 543) hF dL_law_543 ?_
    refine jq_sld (pc := 544) hF hX (by omega) (by omega) dL_law_544 ?_
    refine jq_aload_n (pc := 545) hF 3 dL_law_545 rfl ?_
    refine jq_iload_n (pc := 546) hF 0 dL_law_546 rfl ?_
    refine jq_iconst (pc := 547) hF dL_law_547 ic_2 ?_
    refine jq_iaddN (pc := 548) hF dL_law_548 ?_
    refine jq_sld (pc := 549) hF hX (by omega) (by omega) dL_law_549 ?_
    refine jq_aload_n (pc := 550) hF 3 dL_law_550 rfl ?_
    refine jq_iload_n (pc := 551) hF 0 dL_law_551 rfl ?_
    refine jq_iconst (pc := 552) hF dL_law_552 ic_3 ?_
    refine jq_iaddN (pc := 553) hF dL_law_553 ?_
    refine jq_sld (pc := 554) hF hX (by omega) (by omega) dL_law_554 ?_
    refine jq_cL (pc := 555) hF (As := [.int (xs (3 + 4 * k + 1)), .int (xs (3 + 4 * k + 2)), .int (xs (3 + 4 * k + 3))]) (rest := [.int (if cLearnedB σ (xs (3 + 4 * k + 1)) (xs (3 + 4 * k + 2)) (xs (3 + 4 * k + 3)) = true then cPort σ ((xs (3 + 4 * k + 1))).toNatClampNeg ((xs (3 + 4 * k + 2))).toNatClampNeg ((xs (3 + 4 * k + 3))).toNatClampNeg else -1)]) (List.range 30) ((List.range 35).map (· + 30)) (lcM1 a q cI cZ (σ) τ) (lcM2 a q cI cZ (σ) τ) (by decide) (lcM3 a q cI cZ (σ) τ) (by decide) (by decide) (mM_learned l D q cI cZ τ (xs (3 + 4 * k + 1)) (xs (3 + 4 * k + 2)) (xs (3 + 4 * k + 3)) hJ) (jG_v mL_L_79 mI_M_learned mS_M_learned mZ_M mC_M_learned) rfl rfl rfl dd_M_learned ⟨(Nat.le_of_ble_eq_true rfl), (Nat.le_of_ble_eq_true rfl)⟩ 0 rfl rfl rfl rfl (Nat.le_of_ble_eq_true rfl) dL_law_555 ?_
    refine jq_icmp_eq (pc := 558) hF 688 dL_law_558 rfl (fun _ => ?_) (fun h9 => absurd ((hRR σ τ hs).2.2.2.2.2.2.2.2.2.2.2.2.2.2.1 (xs (3 + 4 * k + 1)) (xs (3 + 4 * k + 2)) (xs (3 + 4 * k + 3))).1 h9)
    exact back _ _ ((hRR σ τ hs).2.2.2.2.2.2.2.2.2.2.2.2.2.2.1 (xs (3 + 4 * k + 1)) (xs (3 + 4 * k + 2)) (xs (3 + 4 * k + 3))).2 _ rfl
  · refine jq_tabIn (pc := 62) hF 563 dL_law_62 (by decide) (by decide) (off := 501) (by decide) rfl ?_
    refine jq_aload_n (pc := 563) hF 2 dL_law_563 rfl ?_
    refine jq_aload_n (pc := 564) hF 3 dL_law_564 rfl ?_
    refine jq_iload_n (pc := 565) hF 0 dL_law_565 rfl ?_
    refine jq_iconst (pc := 566) hF dL_law_566 ic_1 ?_
    refine jq_iaddN (pc := 567) hF dL_law_567 ?_
    refine jq_sld (pc := 568) hF hX (by omega) (by omega) dL_law_568 ?_
    refine jq_cL (pc := 569) hF (As := [.int (xs (3 + 4 * k + 1))]) (rest := []) (List.range 35) ((List.range 30).map (· + 35)) (lcC1 a q cI cZ σ τ) (lcC2 a q cI cZ σ τ) (by decide) (lcC3 a q cI cZ σ τ) (by decide) (by decide) (mN_entries l D a cI cZ σ (xs (3 + 4 * k + 1)) hI) (jG_v mL_L_80 mI_N_entries mS_N_entries mZ_N mC_N_entries) rfl rfl rfl dd_N_entries ⟨(Nat.le_of_ble_eq_true rfl), (Nat.le_of_ble_eq_true rfl)⟩ 0 rfl rfl rfl rfl (Nat.le_of_ble_eq_true rfl) dL_law_569 ?_
    refine jq_aload_n (pc := 572) hF 1 dL_law_572 rfl ?_
    refine jq_aload_n (pc := 573) hF 3 dL_law_573 rfl ?_
    refine jq_iload_n (pc := 574) hF 0 dL_law_574 rfl ?_
    refine jq_iconst (pc := 575) hF dL_law_575 ic_1 ?_
    refine jq_iaddN (pc := 576) hF dL_law_576 ?_
    refine jq_sld (pc := 577) hF hX (by omega) (by omega) dL_law_577 ?_
    refine jq_cL (pc := 578) hF (As := [.int (xs (3 + 4 * k + 1))]) (rest := [.int (if cIsBridge σ (xs (3 + 4 * k + 1)) = true then nI (cCountN σ ((xs (3 + 4 * k + 1))).toNatClampNeg 28) else -1)]) (List.range 30) ((List.range 35).map (· + 30)) (lcM1 a q cI cZ (σ) τ) (lcM2 a q cI cZ (σ) τ) (by decide) (lcM3 a q cI cZ (σ) τ) (by decide) (by decide) (mM_entries l D q cI cZ τ (xs (3 + 4 * k + 1)) hJ) (jG_v mL_L_83 mI_M_entries mS_M_entries mZ_M mC_M_entries) rfl rfl rfl dd_M_entries ⟨(Nat.le_of_ble_eq_true rfl), (Nat.le_of_ble_eq_true rfl)⟩ 0 rfl rfl rfl rfl (Nat.le_of_ble_eq_true rfl) dL_law_578 ?_
    refine jq_icmp_eq (pc := 581) hF 688 dL_law_581 rfl (fun _ => ?_) (fun h9 => absurd ((hRR σ τ hs).2.2.2.2.2.2.2.2.2.2.2.2.2.2.2.1 (xs (3 + 4 * k + 1))).1 h9)
    exact back _ _ ((hRR σ τ hs).2.2.2.2.2.2.2.2.2.2.2.2.2.2.2.1 (xs (3 + 4 * k + 1))).2 _ rfl
  · refine jq_tabIn (pc := 62) hF 586 dL_law_62 (by decide) (by decide) (off := 524) (by decide) rfl ?_
    refine jq_aload_n (pc := 586) hF 2 dL_law_586 rfl ?_
    refine jq_aload_n (pc := 587) hF 3 dL_law_587 rfl ?_
    refine jq_iload_n (pc := 588) hF 0 dL_law_588 rfl ?_
    refine jq_iconst (pc := 589) hF dL_law_589 ic_1 ?_
    refine jq_iaddN (pc := 590) hF dL_law_590 ?_
    refine jq_sld (pc := 591) hF hX (by omega) (by omega) dL_law_591 ?_
    refine jq_aload_n (pc := 592) hF 3 dL_law_592 rfl ?_
    refine jq_iload_n (pc := 593) hF 0 dL_law_593 rfl ?_
    refine jq_iconst (pc := 594) hF dL_law_594 ic_2 ?_
    refine jq_iaddN (pc := 595) hF dL_law_595 ?_
    refine jq_sld (pc := 596) hF hX (by omega) (by omega) dL_law_596 ?_
    refine jq_cL (pc := 597) hF (As := [.int (xs (3 + 4 * k + 1)), .int (xs (3 + 4 * k + 2))]) (rest := []) (List.range 35) ((List.range 30).map (· + 35)) (lcC1 a q cI cZ σ τ) (lcC2 a q cI cZ σ τ) (by decide) (lcC3 a q cI cZ σ τ) (by decide) (by decide) (mN_send l D a cI cZ σ (xs (3 + 4 * k + 1)) (xs (3 + 4 * k + 2)) hI) (jG_v mL_L_84 mI_N_send mS_N_send mZ_N mC_N_send) rfl rfl rfl dd_N_send ⟨(Nat.le_of_ble_eq_true rfl), (Nat.le_of_ble_eq_true rfl)⟩ 0 rfl rfl rfl rfl (Nat.le_of_ble_eq_true rfl) dL_law_597 ?_
    refine jq_aload_n (pc := 600) hF 1 dL_law_600 rfl ?_
    refine jq_aload_n (pc := 601) hF 3 dL_law_601 rfl ?_
    refine jq_iload_n (pc := 602) hF 0 dL_law_602 rfl ?_
    refine jq_iconst (pc := 603) hF dL_law_603 ic_1 ?_
    refine jq_iaddN (pc := 604) hF dL_law_604 ?_
    refine jq_sld (pc := 605) hF hX (by omega) (by omega) dL_law_605 ?_
    refine jq_aload_n (pc := 606) hF 3 dL_law_606 rfl ?_
    refine jq_iload_n (pc := 607) hF 0 dL_law_607 rfl ?_
    refine jq_iconst (pc := 608) hF dL_law_608 ic_2 ?_
    refine jq_iaddN (pc := 609) hF dL_law_609 ?_
    refine jq_sld (pc := 610) hF hX (by omega) (by omega) dL_law_610 ?_
    refine jq_cL (pc := 611) hF (As := [.int (xs (3 + 4 * k + 1)), .int (xs (3 + 4 * k + 2))]) (rest := [.int (if cSendB σ (xs (3 + 4 * k + 1)) (xs (3 + 4 * k + 2)) = true then (cCarry (sU σ 5 5 (nI 0)) (xs (3 + 4 * k + 1)) (xs (3 + 4 * k + 2)) (σ 10 ((xs (3 + 4 * k + 1))).toNatClampNeg) (-1)) 5 4 else -1)]) (List.range 30) ((List.range 35).map (· + 30)) (lcM1 a q cI cZ (if cSendB σ (xs (3 + 4 * k + 1)) (xs (3 + 4 * k + 2)) = true then cCarry (sU σ 5 5 (nI 0)) (xs (3 + 4 * k + 1)) (xs (3 + 4 * k + 2)) (σ 10 ((xs (3 + 4 * k + 1))).toNatClampNeg) (-1) else σ) τ) (lcM2 a q cI cZ (if cSendB σ (xs (3 + 4 * k + 1)) (xs (3 + 4 * k + 2)) = true then cCarry (sU σ 5 5 (nI 0)) (xs (3 + 4 * k + 1)) (xs (3 + 4 * k + 2)) (σ 10 ((xs (3 + 4 * k + 1))).toNatClampNeg) (-1) else σ) τ) (by decide) (lcM3 a q cI cZ (if cSendB σ (xs (3 + 4 * k + 1)) (xs (3 + 4 * k + 2)) = true then cCarry (sU σ 5 5 (nI 0)) (xs (3 + 4 * k + 1)) (xs (3 + 4 * k + 2)) (σ 10 ((xs (3 + 4 * k + 1))).toNatClampNeg) (-1) else σ) τ) (by decide) (by decide) (mM_send l D q cI cZ τ (xs (3 + 4 * k + 1)) (xs (3 + 4 * k + 2)) hJ) (jG_v mL_L_87 mI_M_send mS_M_send mZ_M mC_M_send) rfl rfl rfl dd_M_send ⟨(Nat.le_of_ble_eq_true rfl), (Nat.le_of_ble_eq_true rfl)⟩ 0 rfl rfl rfl rfl (Nat.le_of_ble_eq_true rfl) dL_law_611 ?_
    refine jq_icmp_eq (pc := 614) hF 688 dL_law_614 rfl (fun _ => ?_) (fun h9 => absurd ((hRR σ τ hs).2.2.2.2.2.2.2.2.2.2.2.2.2.2.2.2.1 (xs (3 + 4 * k + 1)) (xs (3 + 4 * k + 2))).1 h9)
    exact back _ _ ((hRR σ τ hs).2.2.2.2.2.2.2.2.2.2.2.2.2.2.2.2.1 (xs (3 + 4 * k + 1)) (xs (3 + 4 * k + 2))).2 _ rfl
  · refine jq_tabIn (pc := 62) hF 619 dL_law_62 (by decide) (by decide) (off := 557) (by decide) rfl ?_
    refine jq_aload_n (pc := 619) hF 2 dL_law_619 rfl ?_
    refine jq_aload_n (pc := 620) hF 3 dL_law_620 rfl ?_
    refine jq_iload_n (pc := 621) hF 0 dL_law_621 rfl ?_
    refine jq_iconst (pc := 622) hF dL_law_622 ic_1 ?_
    refine jq_iaddN (pc := 623) hF dL_law_623 ?_
    refine jq_sld (pc := 624) hF hX (by omega) (by omega) dL_law_624 ?_
    refine jq_aload_n (pc := 625) hF 3 dL_law_625 rfl ?_
    refine jq_iload_n (pc := 626) hF 0 dL_law_626 rfl ?_
    refine jq_iconst (pc := 627) hF dL_law_627 ic_2 ?_
    refine jq_iaddN (pc := 628) hF dL_law_628 ?_
    refine jq_sld (pc := 629) hF hX (by omega) (by omega) dL_law_629 ?_
    refine jq_aload_n (pc := 630) hF 3 dL_law_630 rfl ?_
    refine jq_iload_n (pc := 631) hF 0 dL_law_631 rfl ?_
    refine jq_iconst (pc := 632) hF dL_law_632 ic_3 ?_
    refine jq_iaddN (pc := 633) hF dL_law_633 ?_
    refine jq_sld (pc := 634) hF hX (by omega) (by omega) dL_law_634 ?_
    refine jq_cL (pc := 635) hF (As := [.int (xs (3 + 4 * k + 1)), .int (xs (3 + 4 * k + 2)), .int (xs (3 + 4 * k + 3))]) (rest := []) (List.range 35) ((List.range 30).map (· + 35)) (lcC1 a q cI cZ σ τ) (lcC2 a q cI cZ σ τ) (by decide) (lcC3 a q cI cZ σ τ) (by decide) (by decide) (mN_ask l D a cI cZ σ (xs (3 + 4 * k + 1)) (xs (3 + 4 * k + 2)) (xs (3 + 4 * k + 3)) hI) (jG_v mL_L_88 mI_N_ask mS_N_ask mZ_N mC_N_ask) rfl rfl rfl dd_N_ask ⟨(Nat.le_of_ble_eq_true rfl), (Nat.le_of_ble_eq_true rfl)⟩ 0 rfl rfl rfl rfl (Nat.le_of_ble_eq_true rfl) dL_law_635 ?_
    refine jq_aload_n (pc := 638) hF 1 dL_law_638 rfl ?_
    refine jq_aload_n (pc := 639) hF 3 dL_law_639 rfl ?_
    refine jq_iload_n (pc := 640) hF 0 dL_law_640 rfl ?_
    refine jq_iconst (pc := 641) hF dL_law_641 ic_1 ?_
    refine jq_iaddN (pc := 642) hF dL_law_642 ?_
    refine jq_sld (pc := 643) hF hX (by omega) (by omega) dL_law_643 ?_
    refine jq_aload_n (pc := 644) hF 3 dL_law_644 rfl ?_
    refine jq_iload_n (pc := 645) hF 0 dL_law_645 rfl ?_
    refine jq_iconst (pc := 646) hF dL_law_646 ic_2 ?_
    refine jq_iaddN (pc := 647) hF dL_law_647 ?_
    refine jq_sld (pc := 648) hF hX (by omega) (by omega) dL_law_648 ?_
    refine jq_aload_n (pc := 649) hF 3 dL_law_649 rfl ?_
    refine jq_iload_n (pc := 650) hF 0 dL_law_650 rfl ?_
    refine jq_iconst (pc := 651) hF dL_law_651 ic_3 ?_
    refine jq_iaddN (pc := 652) hF dL_law_652 ?_
    refine jq_sld (pc := 653) hF hX (by omega) (by omega) dL_law_653 ?_
    refine jq_cL (pc := 654) hF (As := [.int (xs (3 + 4 * k + 1)), .int (xs (3 + 4 * k + 2)), .int (xs (3 + 4 * k + 3))]) (rest := [.int (if cAskB σ (xs (3 + 4 * k + 1)) (xs (3 + 4 * k + 2)) = true then nI (cAskF σ ((xs (3 + 4 * k + 1))).toNatClampNeg ((xs (3 + 4 * k + 2))).toNatClampNeg).2 else -1)]) (List.range 30) ((List.range 35).map (· + 30)) (lcM1 a q cI cZ (if cAskB σ (xs (3 + 4 * k + 1)) (xs (3 + 4 * k + 2)) = true then cAskSt σ ((xs (3 + 4 * k + 1))).toNatClampNeg ((xs (3 + 4 * k + 2))).toNatClampNeg (xs (3 + 4 * k + 3)) else σ) τ) (lcM2 a q cI cZ (if cAskB σ (xs (3 + 4 * k + 1)) (xs (3 + 4 * k + 2)) = true then cAskSt σ ((xs (3 + 4 * k + 1))).toNatClampNeg ((xs (3 + 4 * k + 2))).toNatClampNeg (xs (3 + 4 * k + 3)) else σ) τ) (by decide) (lcM3 a q cI cZ (if cAskB σ (xs (3 + 4 * k + 1)) (xs (3 + 4 * k + 2)) = true then cAskSt σ ((xs (3 + 4 * k + 1))).toNatClampNeg ((xs (3 + 4 * k + 2))).toNatClampNeg (xs (3 + 4 * k + 3)) else σ) τ) (by decide) (by decide) (mM_ask l D q cI cZ τ (xs (3 + 4 * k + 1)) (xs (3 + 4 * k + 2)) (xs (3 + 4 * k + 3)) hJ) (jG_v mL_L_91 mI_M_ask mS_M_ask mZ_M mC_M_ask) rfl rfl rfl dd_M_ask ⟨(Nat.le_of_ble_eq_true rfl), (Nat.le_of_ble_eq_true rfl)⟩ 0 rfl rfl rfl rfl (Nat.le_of_ble_eq_true rfl) dL_law_654 ?_
    refine jq_icmp_eq (pc := 657) hF 688 dL_law_657 rfl (fun _ => ?_) (fun h9 => absurd ((hRR σ τ hs).2.2.2.2.2.2.2.2.2.2.2.2.2.2.2.2.2.1 (xs (3 + 4 * k + 1)) (xs (3 + 4 * k + 2)) (xs (3 + 4 * k + 3))).1 h9)
    exact back _ _ ((hRR σ τ hs).2.2.2.2.2.2.2.2.2.2.2.2.2.2.2.2.2.1 (xs (3 + 4 * k + 1)) (xs (3 + 4 * k + 2)) (xs (3 + 4 * k + 3))).2 _ rfl
  · refine jq_tabIn (pc := 62) hF 662 dL_law_62 (by decide) (by decide) (off := 600) (by decide) rfl ?_
    refine jq_aload_n (pc := 662) hF 2 dL_law_662 rfl ?_
    refine jq_cL (pc := 663) hF (As := []) (rest := []) (List.range 35) ((List.range 30).map (· + 35)) (lcC1 a q cI cZ σ τ) (lcC2 a q cI cZ σ τ) (by decide) (lcC3 a q cI cZ σ τ) (by decide) (by decide) (mN_answer l D a cI cZ σ  ) (jG_v mL_L_92 mI_N_answer mS_N_answer mZ_N mC_N_answer) rfl rfl rfl dd_N_answer ⟨(Nat.le_of_ble_eq_true rfl), (Nat.le_of_ble_eq_true rfl)⟩ 0 rfl rfl rfl rfl (Nat.le_of_ble_eq_true rfl) dL_law_663 ?_
    refine jq_aload_n (pc := 666) hF 1 dL_law_666 rfl ?_
    refine jq_cL (pc := 667) hF (As := []) (rest := [.int (σ 0 1)]) (List.range 30) ((List.range 35).map (· + 30)) (lcM1 a q cI cZ (σ) τ) (lcM2 a q cI cZ (σ) τ) (by decide) (lcM3 a q cI cZ (σ) τ) (by decide) (by decide) (mM_answer l D q cI cZ τ  ) (jG_v mL_L_96 mI_M_answer mS_M_answer mZ_M mC_M_answer) rfl rfl rfl dd_M_answer ⟨(Nat.le_of_ble_eq_true rfl), (Nat.le_of_ble_eq_true rfl)⟩ 0 rfl rfl rfl rfl (Nat.le_of_ble_eq_true rfl) dL_law_667 ?_
    refine jq_icmp_eq (pc := 670) hF 688 dL_law_670 rfl (fun _ => ?_) (fun h9 => absurd ((hRR σ τ hs).2.2.2.2.2.2.2.2.2.2.2.2.2.2.2.2.2.2.1).1 h9)
    exact back _ _ ((hRR σ τ hs).2.2.2.2.2.2.2.2.2.2.2.2.2.2.2.2.2.2.1).2 _ rfl
  · refine jq_tabIn (pc := 62) hF 675 dL_law_62 (by decide) (by decide) (off := 613) (by decide) rfl ?_
    refine jq_aload_n (pc := 675) hF 2 dL_law_675 rfl ?_
    refine jq_cL (pc := 676) hF (As := []) (rest := []) (List.range 35) ((List.range 30).map (· + 35)) (lcC1 a q cI cZ σ τ) (lcC2 a q cI cZ σ τ) (by decide) (lcC3 a q cI cZ σ τ) (by decide) (by decide) (mN_crossings l D a cI cZ σ  ) (jG_v mL_L_97 mI_N_crossings mS_N_crossings mZ_N mC_N_crossings) rfl rfl rfl dd_N_crossings ⟨(Nat.le_of_ble_eq_true rfl), (Nat.le_of_ble_eq_true rfl)⟩ 0 rfl rfl rfl rfl (Nat.le_of_ble_eq_true rfl) dL_law_676 ?_
    refine jq_aload_n (pc := 679) hF 1 dL_law_679 rfl ?_
    refine jq_cL (pc := 680) hF (As := []) (rest := [.int (σ 5 5)]) (List.range 30) ((List.range 35).map (· + 30)) (lcM1 a q cI cZ (σ) τ) (lcM2 a q cI cZ (σ) τ) (by decide) (lcM3 a q cI cZ (σ) τ) (by decide) (by decide) (mM_crossings l D q cI cZ τ  ) (jG_v mL_L_100 mI_M_crossings mS_M_crossings mZ_M mC_M_crossings) rfl rfl rfl dd_M_crossings ⟨(Nat.le_of_ble_eq_true rfl), (Nat.le_of_ble_eq_true rfl)⟩ 0 rfl rfl rfl rfl (Nat.le_of_ble_eq_true rfl) dL_law_680 ?_
    refine jq_icmp_eq (pc := 683) hF 688 dL_law_683 rfl (fun _ => ?_) (fun h9 => absurd ((hRR σ τ hs).2.2.2.2.2.2.2.2.2.2.2.2.2.2.2.2.2.2.2).1 h9)
    exact back _ _ ((hRR σ τ hs).2.2.2.2.2.2.2.2.2.2.2.2.2.2.2.2.2.2.2).2 _ rfl
  · refine jq_tabOut (pc := 62) hF 688 dL_law_62 (Or.inr (by rw [nI_toInt (by omega)]; omega)) rfl ?_
    exact back σ τ hs _ rfl
