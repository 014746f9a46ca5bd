theorem lg_cmp_self (x : Int64) : lg_cmp x x = nI 0 := by
  unfold lg_cmp
  rw [if_neg (fun h => absurd h (by simp)), if_pos rfl]
  rfl
set_option maxRecDepth 100000 in
set_option maxHeartbeats 4000000 in
theorem lk_0 {p : Program} {l : Launch} {e : Env} {s : State} {m : MethodId} {args : Array Value} {below : List Frame} {meth : Method} {c : Code} {D : va_G} {A : Nat → Prop} {Q : State → Prop} (q : wLay) {b N : Nat} {xs : Nat → Int32} (hC : gC p s m args meth c cL_law 9 RL wsL_law D (wTy q) A) (hX : va_X b N xs s s.heap ∧ b < s.heap.size ∧ ¬ A b) (hl9 : l.stackTraces = false) (hN : N ≤ 2048) {t k n : Nat} (ht : 4 * t + 4 ≤ N) (hk : k + 8 ≤ 663840) (hn : n + 48 ≤ 7104584) {σ : cSt} {μ : mSt} {f : Nat → Int64} {g : Nat → UInt64} {Δ : dSt} (hσ : cRel σ Δ) (hμ : mRel μ Δ) (x y z : Int32) (hx : xs (4 * t + 1) = x) (hy : xs (4 * t + 2) = y) (hz : xs (4 * t + 3) = z) (kk : ∀ (σ' : cSt) (μ' : mSt) (f' : Nat → Int64) (g' : Nat → UInt64) (Δ' : dSt), cRel σ' Δ' → mRel μ' Δ' → gG p l e room_1 s m args below meth c D A 9 (k + 8) (n + 48) Q (WC (LC q f' g' μ') σ') 2915 [(0, .ref b), (1, .ref (wx q)), (2, .ref (wm q)), (3, .ref (wo q)), (4, .ref (wd q)), (5, .int (nI (4 * t)))] []) : gG p l e room_1 s m args below meth c D A 9 k n Q (WC (LC q f g μ) σ) 224 [(0, .ref b), (1, .ref (wx q)), (2, .ref (wm q)), (3, .ref (wo q)), (4, .ref (wd q)), (5, .int (nI (4 * t)))] [] := by
  have hM := gCm hC
  refine gAloadN (pc := 224) hC dL_law_224 rfl 1 rfl ?_
  refine gAloadN (pc := 225) hC dL_law_225 rfl 0 rfl ?_
  refine gIload (pc := 226) hC dL_law_226 5 rfl ?_
  refine gIconst (pc := 228) hC (v := (nI 1)) dL_law_228 (by decide +kernel) ?_
  refine gIadd (pc := 229) hC (v := nI (4 * t + 1)) dL_law_229 (nI_add _ _) ?_
  refine gSld (pc := 230) hC (v := x) hX (4 * t + 1) rfl (by omega) hN hx dL_law_230 ?_
  refine gAloadN (pc := 231) hC dL_law_231 rfl 0 rfl ?_
  refine gIload (pc := 232) hC dL_law_232 5 rfl ?_
  refine gIconst (pc := 234) hC (v := (nI 2)) dL_law_234 (by decide +kernel) ?_
  refine gIadd (pc := 235) hC (v := nI (4 * t + 2)) dL_law_235 (nI_add _ _) ?_
  refine gSld (pc := 236) hC (v := y) hX (4 * t + 2) rfl (by omega) hN hy dL_law_236 ?_
  refine gAloadN (pc := 237) hC dL_law_237 rfl 3 rfl ?_
  obtain ⟨K, hK⟩ : ∃ K : Nat, K = kk2 (okR x) (okLI y) := ⟨_, rfl⟩
  have hKn : ¬ K = 0 → ¬ nI K = 0 := by rw [hK]; exact kk2_n
  refine gSW (pc := 238) (rest := []) hC hl9 (c_L_make l D q σ μ f g Δ x y hσ) (vx_cwSW 4 hC.2.2.2.2.1 gL_law_L_make rfl rfl rfl (by decide +kernel) ⟨Nat.le_of_ble_eq_true rfl, Nat.le_of_ble_eq_true rfl⟩) rfl rfl (Nat.le_of_ble_eq_true rfl) dL_law_238 ⟨Nat.le_trans (Nat.add_le_add_left (by decide) _) hk, Nat.le_trans (Nat.add_le_add_left (by decide) _) hn⟩ (fun v w1 hp => ?_)
  have hp : wPost q g μ Δ (dRow Δ (rI x) (rI y) (fun _ => 0)) K (fun t : Int64 => ∃ v : Int32, t = v.toInt64 ∧ (fun b => b = nI (Δ.2.1 (rI x))) v) v w1 := by rw [hK]; exact hp
  obtain ⟨rfl, σ1, f1, rfl, h1⟩ := hp
  refine gStk (st' := [.int (nI K)]) (pc' := 241) rfl rfl ?_
  refine gIstore (pc := 241) hC (lv' := [(6, .int (nI K)), (0, .ref b), (1, .ref (wx q)), (2, .ref (wm q)), (3, .ref (wo q)), (4, .ref (wd q)), (5, .int (nI (4 * t)))]) dL_law_241 (by decide) rfl ?_
  refine gAloadN (pc := 243) hC dL_law_243 rfl 3 rfl ?_
  refine gAloadN (pc := 244) hC dL_law_244 rfl 1 rfl ?_
  refine gIload (pc := 245) hC dL_law_245 6 rfl ?_
  refine gIconst (pc := 247) hC (v := (nI 1)) dL_law_247 (by decide +kernel) ?_
  refine gIadd (pc := 248) hC (v := nI (4 * t + 1)) dL_law_248 (nI_add _ _) ?_
  refine gSld (pc := 249) hC (v := x) hX (4 * t + 1) rfl (by omega) hN hx dL_law_249 ?_
  refine gAloadN (pc := 250) hC dL_law_250 rfl 1 rfl ?_
  refine gIload (pc := 251) hC dL_law_251 6 rfl ?_
  refine gIconst (pc := 253) hC (v := (nI 2)) dL_law_253 (by decide +kernel) ?_
  refine gIadd (pc := 254) hC (v := nI (4 * t + 2)) dL_law_254 (nI_add _ _) ?_
  refine gSld (pc := 255) hC (v := y) hX (4 * t + 2) rfl (by omega) hN hy dL_law_255 ?_
  refine gToM ?_
  refine gV (pc := 256) (rest := []) (ci := 2) (q0 := 0) hM (c_X2_make l D (LM q f1 g σ1) μ Δ x y hμ) rfl rfl (cwV 2 hC.2.2.2.2.1 gL_law_X2_make rfl rfl rfl (by decide +kernel) ⟨Nat.le_of_ble_eq_true rfl, Nat.le_of_ble_eq_true rfl⟩) rfl rfl (Nat.le_of_ble_eq_true rfl) dL_law_256 ⟨Nat.le_trans (show k + 2 + 0 ≤ k + 8 by omega) hk, Nat.le_trans (show n + 12 + 0 ≤ n + 48 by omega) hn⟩ (fun v w1 hp => ?_)
  have hp : mPost (LM q f1 g σ1) Δ (dRow Δ (rI x) (rI y) (fun _ => 0)) K (fun b => b = nI (Δ.2.1 (rI x))) v w1 := by rw [hK]; exact hp
  obtain ⟨b1, rfl, μ1, rfl, hmt, h2⟩ := hp
  refine gStk (st' := [.int b1]) (pc' := 259) rfl rfl ?_
  have hj := wJoin h1 h2
  refine gIstore (pc := 259) hM (lv' := [(7, .int b1), (6, .int (nI K)), (0, .ref b), (1, .ref (wx q)), (2, .ref (wm q)), (3, .ref (wo q)), (4, .ref (wd q)), (5, .int (nI (4 * t)))]) dL_law_259 (by decide) rfl ?_
  refine gAloadN (pc := 261) hM dL_law_261 rfl 4 rfl ?_
  refine gV (pc := 262) (rest := []) (ci := 2) (q0 := 0) hM (c_X2_thrown l D (LM q f1 g σ1) μ1) rfl rfl (cwV 0 hC.2.2.2.2.1 gL_law_X2_thrown rfl rfl rfl (by decide +kernel) ⟨Nat.le_of_ble_eq_true rfl, Nat.le_of_ble_eq_true rfl⟩) rfl rfl (Nat.le_of_ble_eq_true rfl) dL_law_262 ⟨Nat.le_trans (show k + 2 + 0 ≤ k + 8 by omega) hk, Nat.le_trans (show n + 12 + 0 ≤ n + 48 by omega) hn⟩ (fun v w1 hp => ?_)
  obtain ⟨rfl, rfl⟩ := hp
  refine gStk (st' := [.int (mt μ1)]) (pc' := 265) rfl rfl ?_
  refine gIload (pc := 265) hM dL_law_265 1 rfl ?_
  refine gIcmp_eq (tgt := 272) (pc := 267) hM dL_law_267 (by decide) (fun _ => ?_) (fun h => absurd hmt h)
  rcases hj with ⟨hK0, ⟨hcv, hσ1⟩, hvl, hμ1⟩ | ⟨hK1, hσ1, hμ1⟩
  · skip
    refine gIload (pc := 272) hM dL_law_272 1 rfl ?_
    refine gIf_ne (tgt := 289) (pc := 274) hM dL_law_274 (by decide) (fun h => absurd (by rw [hK0]; rfl) h) (fun _ => ?_)
    obtain ⟨v0, hv0, hcv⟩ := hcv
    have hvb : v0 = b1 := hcv.trans hvl.symm
    refine gAloadN (pc := 277) hM dL_law_277 rfl 5 rfl ?_
    refine gIconst (pc := 278) hM (v := (nI 0)) dL_law_278 (by decide +kernel) ?_
    refine gLald (pc := 279) hM 0 rfl (by decide) (by decide) 9 3 rfl rfl rfl dL_law_279 ?_
    refine gIload (pc := 280) hM dL_law_280 0 rfl ?_
    refine gI2l (pc := 282) hM dL_law_282 rfl ?_
    refine gLcmp (v := nI 0) (pc := 283) hM dL_law_283 (by rw [hv0, hvb]; exact lg_cmp_self _) ?_
    refine gIf_eq (tgt := 289) (pc := 284) hM dL_law_284 (by decide) (fun _ => ?_) (fun h => absurd rfl h)
    refine gGoto (pc := 289) hM (tgt := 2915) dL_law_289 (by decide) ?_
    refine gToC ?_
    refine gLoc (lv' := [(0, .ref b), (1, .ref (wx q)), (2, .ref (wm q)), (3, .ref (wo q)), (4, .ref (wd q)), (5, .int (nI (4 * t)))]) [2, 3, 4, 5, 6, 7] rfl ?_
    exact gWid (show k + 2 + 0 + 0 ≤ k + 8 by omega) (show n + 12 + 0 + 0 ≤ n + 48 by omega) (kk σ1 μ1 f1 g (dRow Δ (rI x) (rI y) (fun _ => 0)) hσ1 hμ1)
  · skip
    refine gIload (pc := 272) hM dL_law_272 1 rfl ?_
    refine gIf_ne (tgt := 289) (pc := 274) hM dL_law_274 (by decide) (fun _ => ?_) (fun h => absurd h (hKn hK1))
    refine gGoto (pc := 289) hM (tgt := 2915) dL_law_289 (by decide) ?_
    refine gToC ?_
    refine gLoc (lv' := [(0, .ref b), (1, .ref (wx q)), (2, .ref (wm q)), (3, .ref (wo q)), (4, .ref (wd q)), (5, .int (nI (4 * t)))]) [2, 3, 4, 5, 6, 7] rfl ?_
    exact gWid (show k + 2 + 0 + 0 ≤ k + 8 by omega) (show n + 12 + 0 + 0 ≤ n + 48 by omega) (kk σ1 μ1 f1 g (Δ) hσ1 hμ1)

set_option maxRecDepth 100000 in
set_option maxHeartbeats 4000000 in
theorem lk_1 {p : Program} {l : Launch} {e : Env} {s : State} {m : MethodId} {args : Array Value} {below : List Frame} {meth : Method} {c : Code} {D : va_G} {A : Nat → Prop} {Q : State → Prop} (q : wLay) {b N : Nat} {xs : Nat → Int32} (hC : gC p s m args meth c cL_law 9 RL wsL_law D (wTy q) A) (hX : va_X b N xs s s.heap ∧ b < s.heap.size ∧ ¬ A b) (hl9 : l.stackTraces = false) (hN : N ≤ 2048) {t k n : Nat} (ht : 4 * t + 4 ≤ N) (hk : k + 8 ≤ 663840) (hn : n + 48 ≤ 7104584) {σ : cSt} {μ : mSt} {f : Nat → Int64} {g : Nat → UInt64} {Δ : dSt} (hσ : cRel σ Δ) (hμ : mRel μ Δ) (x y z : Int32) (hx : xs (4 * t + 1) = x) (hy : xs (4 * t + 2) = y) (hz : xs (4 * t + 3) = z) (kk : ∀ (σ' : cSt) (μ' : mSt) (f' : Nat → Int64) (g' : Nat → UInt64) (Δ' : dSt), cRel σ' Δ' → mRel μ' Δ' → gG p l e room_1 s m args below meth c D A 9 (k + 8) (n + 48) Q (WC (LC q f' g' μ') σ') 2915 [(0, .ref b), (1, .ref (wx q)), (2, .ref (wm q)), (3, .ref (wo q)), (4, .ref (wd q)), (5, .int (nI (4 * t)))] []) : gG p l e room_1 s m args below meth c D A 9 k n Q (WC (LC q f g μ) σ) 292 [(0, .ref b), (1, .ref (wx q)), (2, .ref (wm q)), (3, .ref (wo q)), (4, .ref (wd q)), (5, .int (nI (4 * t)))] [] := by
  have hM := gCm hC
  refine gAloadN (pc := 292) hC dL_law_292 rfl 1 rfl ?_
  refine gAloadN (pc := 293) hC dL_law_293 rfl 0 rfl ?_
  refine gIload (pc := 294) hC dL_law_294 5 rfl ?_
  refine gIconst (pc := 296) hC (v := (nI 1)) dL_law_296 (by decide +kernel) ?_
  refine gIadd (pc := 297) hC (v := nI (4 * t + 1)) dL_law_297 (nI_add _ _) ?_
  refine gSld (pc := 298) hC (v := x) hX (4 * t + 1) rfl (by omega) hN hx dL_law_298 ?_
  refine gAloadN (pc := 299) hC dL_law_299 rfl 0 rfl ?_
  refine gIload (pc := 300) hC dL_law_300 5 rfl ?_
  refine gIconst (pc := 302) hC (v := (nI 2)) dL_law_302 (by decide +kernel) ?_
  refine gIadd (pc := 303) hC (v := nI (4 * t + 2)) dL_law_303 (nI_add _ _) ?_
  refine gSld (pc := 304) hC (v := y) hX (4 * t + 2) rfl (by omega) hN hy dL_law_304 ?_
  refine gAloadN (pc := 305) hC dL_law_305 rfl 0 rfl ?_
  refine gIload (pc := 306) hC dL_law_306 5 rfl ?_
  refine gIconst (pc := 308) hC (v := (nI 3)) dL_law_308 (by decide +kernel) ?_
  refine gIadd (pc := 309) hC (v := nI (4 * t + 3)) dL_law_309 (nI_add _ _) ?_
  refine gSld (pc := 310) hC (v := z) hX (4 * t + 3) rfl (by omega) hN hz dL_law_310 ?_
  refine gAloadN (pc := 311) hC dL_law_311 rfl 3 rfl ?_
  obtain ⟨K, hK⟩ : ∃ K : Nat, K = kk2 (okR x ∧ okP y (Δ.2.1 (rI x))) (okNum z) := ⟨_, rfl⟩
  have hKn : ¬ K = 0 → ¬ nI K = 0 := by rw [hK]; exact kk2_n
  refine gSW (pc := 312) (rest := []) hC hl9 (c_L_set l D q σ μ f g Δ x y z hσ) (vx_cwSW 5 hC.2.2.2.2.1 gL_law_L_set rfl rfl rfl (by decide +kernel) ⟨Nat.le_of_ble_eq_true rfl, Nat.le_of_ble_eq_true rfl⟩) rfl rfl (Nat.le_of_ble_eq_true rfl) dL_law_312 ⟨Nat.le_trans (Nat.add_le_add_left (by decide) _) hk, Nat.le_trans (Nat.add_le_add_left (by decide) _) hn⟩ (fun v w1 hp => ?_)
  have hp : wPost q g μ Δ (dRow Δ (rI x) (Δ.2.1 (rI x)) (fun j => if j = (rI y) then nu z else (Δ.2.2 (rI x)) j)) K (fun t : Int64 => ∃ v : Int32, t = v.toInt64 ∧ (fun b => b = nI ((Δ.2.2 (rI x)) (rI y)).val) v) v w1 := by rw [hK]; exact hp
  obtain ⟨rfl, σ1, f1, rfl, h1⟩ := hp
  refine gStk (st' := [.int (nI K)]) (pc' := 315) rfl rfl ?_
  refine gIstore (pc := 315) hC (lv' := [(6, .int (nI K)), (0, .ref b), (1, .ref (wx q)), (2, .ref (wm q)), (3, .ref (wo q)), (4, .ref (wd q)), (5, .int (nI (4 * t)))]) dL_law_315 (by decide) rfl ?_
  refine gAloadN (pc := 317) hC dL_law_317 rfl 3 rfl ?_
  refine gAloadN (pc := 318) hC dL_law_318 rfl 1 rfl ?_
  refine gIload (pc := 319) hC dL_law_319 6 rfl ?_
  refine gIconst (pc := 321) hC (v := (nI 1)) dL_law_321 (by decide +kernel) ?_
  refine gIadd (pc := 322) hC (v := nI (4 * t + 1)) dL_law_322 (nI_add _ _) ?_
  refine gSld (pc := 323) hC (v := x) hX (4 * t + 1) rfl (by omega) hN hx dL_law_323 ?_
  refine gAloadN (pc := 324) hC dL_law_324 rfl 1 rfl ?_
  refine gIload (pc := 325) hC dL_law_325 6 rfl ?_
  refine gIconst (pc := 327) hC (v := (nI 2)) dL_law_327 (by decide +kernel) ?_
  refine gIadd (pc := 328) hC (v := nI (4 * t + 2)) dL_law_328 (nI_add _ _) ?_
  refine gSld (pc := 329) hC (v := y) hX (4 * t + 2) rfl (by omega) hN hy dL_law_329 ?_
  refine gAloadN (pc := 330) hC dL_law_330 rfl 1 rfl ?_
  refine gIload (pc := 331) hC dL_law_331 6 rfl ?_
  refine gIconst (pc := 333) hC (v := (nI 3)) dL_law_333 (by decide +kernel) ?_
  refine gIadd (pc := 334) hC (v := nI (4 * t + 3)) dL_law_334 (nI_add _ _) ?_
  refine gSld (pc := 335) hC (v := z) hX (4 * t + 3) rfl (by omega) hN hz dL_law_335 ?_
  refine gToM ?_
  refine gV (pc := 336) (rest := []) (ci := 2) (q0 := 0) hM (c_X2_set l D (LM q f1 g σ1) μ Δ x y z hμ) rfl rfl (cwV 3 hC.2.2.2.2.1 gL_law_X2_set rfl rfl rfl (by decide +kernel) ⟨Nat.le_of_ble_eq_true rfl, Nat.le_of_ble_eq_true rfl⟩) rfl rfl (Nat.le_of_ble_eq_true rfl) dL_law_336 ⟨Nat.le_trans (show k + 3 + 0 ≤ k + 8 by omega) hk, Nat.le_trans (show n + 18 + 0 ≤ n + 48 by omega) hn⟩ (fun v w1 hp => ?_)
  have hp : mPost (LM q f1 g σ1) Δ (dRow Δ (rI x) (Δ.2.1 (rI x)) (fun j => if j = (rI y) then nu z else (Δ.2.2 (rI x)) j)) K (fun b => b = nI ((Δ.2.2 (rI x)) (rI y)).val) v w1 := by rw [hK]; exact hp
  obtain ⟨b1, rfl, μ1, rfl, hmt, h2⟩ := hp
  refine gStk (st' := [.int b1]) (pc' := 339) rfl rfl ?_
  have hj := wJoin h1 h2
  refine gIstore (pc := 339) hM (lv' := [(7, .int b1), (6, .int (nI K)), (0, .ref b), (1, .ref (wx q)), (2, .ref (wm q)), (3, .ref (wo q)), (4, .ref (wd q)), (5, .int (nI (4 * t)))]) dL_law_339 (by decide) rfl ?_
  refine gAloadN (pc := 341) hM dL_law_341 rfl 4 rfl ?_
  refine gV (pc := 342) (rest := []) (ci := 2) (q0 := 0) hM (c_X2_thrown l D (LM q f1 g σ1) μ1) rfl rfl (cwV 0 hC.2.2.2.2.1 gL_law_X2_thrown rfl rfl rfl (by decide +kernel) ⟨Nat.le_of_ble_eq_true rfl, Nat.le_of_ble_eq_true rfl⟩) rfl rfl (Nat.le_of_ble_eq_true rfl) dL_law_342 ⟨Nat.le_trans (show k + 3 + 0 ≤ k + 8 by omega) hk, Nat.le_trans (show n + 18 + 0 ≤ n + 48 by omega) hn⟩ (fun v w1 hp => ?_)
  obtain ⟨rfl, rfl⟩ := hp
  refine gStk (st' := [.int (mt μ1)]) (pc' := 345) rfl rfl ?_
  refine gIload (pc := 345) hM dL_law_345 1 rfl ?_
  refine gIcmp_eq (tgt := 352) (pc := 347) hM dL_law_347 (by decide) (fun _ => ?_) (fun h => absurd hmt h)
  rcases hj with ⟨hK0, ⟨hcv, hσ1⟩, hvl, hμ1⟩ | ⟨hK1, hσ1, hμ1⟩
  · skip
    refine gIload (pc := 352) hM dL_law_352 1 rfl ?_
    refine gIf_ne (tgt := 369) (pc := 354) hM dL_law_354 (by decide) (fun h => absurd (by rw [hK0]; rfl) h) (fun _ => ?_)
    obtain ⟨v0, hv0, hcv⟩ := hcv
    have hvb : v0 = b1 := hcv.trans hvl.symm
    refine gAloadN (pc := 357) hM dL_law_357 rfl 5 rfl ?_
    refine gIconst (pc := 358) hM (v := (nI 0)) dL_law_358 (by decide +kernel) ?_
    refine gLald (pc := 359) hM 0 rfl (by decide) (by decide) 9 3 rfl rfl rfl dL_law_359 ?_
    refine gIload (pc := 360) hM dL_law_360 0 rfl ?_
    refine gI2l (pc := 362) hM dL_law_362 rfl ?_
    refine gLcmp (v := nI 0) (pc := 363) hM dL_law_363 (by rw [hv0, hvb]; exact lg_cmp_self _) ?_
    refine gIf_eq (tgt := 369) (pc := 364) hM dL_law_364 (by decide) (fun _ => ?_) (fun h => absurd rfl h)
    refine gGoto (pc := 369) hM (tgt := 2915) dL_law_369 (by decide) ?_
    refine gToC ?_
    refine gLoc (lv' := [(0, .ref b), (1, .ref (wx q)), (2, .ref (wm q)), (3, .ref (wo q)), (4, .ref (wd q)), (5, .int (nI (4 * t)))]) [2, 3, 4, 5, 6, 7] rfl ?_
    exact gWid (show k + 3 + 0 + 0 ≤ k + 8 by omega) (show n + 18 + 0 + 0 ≤ n + 48 by omega) (kk σ1 μ1 f1 g (dRow Δ (rI x) (Δ.2.1 (rI x)) (fun j => if j = (rI y) then nu z else (Δ.2.2 (rI x)) j)) hσ1 hμ1)
  · skip
    refine gIload (pc := 352) hM dL_law_352 1 rfl ?_
    refine gIf_ne (tgt := 369) (pc := 354) hM dL_law_354 (by decide) (fun _ => ?_) (fun h => absurd h (hKn hK1))
    refine gGoto (pc := 369) hM (tgt := 2915) dL_law_369 (by decide) ?_
    refine gToC ?_
    refine gLoc (lv' := [(0, .ref b), (1, .ref (wx q)), (2, .ref (wm q)), (3, .ref (wo q)), (4, .ref (wd q)), (5, .int (nI (4 * t)))]) [2, 3, 4, 5, 6, 7] rfl ?_
    exact gWid (show k + 3 + 0 + 0 ≤ k + 8 by omega) (show n + 18 + 0 + 0 ≤ n + 48 by omega) (kk σ1 μ1 f1 g (Δ) hσ1 hμ1)

set_option maxRecDepth 100000 in
set_option maxHeartbeats 4000000 in
theorem lk_2 {p : Program} {l : Launch} {e : Env} {s : State} {m : MethodId} {args : Array Value} {below : List Frame} {meth : Method} {c : Code} {D : va_G} {A : Nat → Prop} {Q : State → Prop} (q : wLay) {b N : Nat} {xs : Nat → Int32} (hC : gC p s m args meth c cL_law 9 RL wsL_law D (wTy q) A) (hX : va_X b N xs s s.heap ∧ b < s.heap.size ∧ ¬ A b) (hl9 : l.stackTraces = false) (hN : N ≤ 2048) {t k n : Nat} (ht : 4 * t + 4 ≤ N) (hk : k + 8 ≤ 663840) (hn : n + 48 ≤ 7104584) {σ : cSt} {μ : mSt} {f : Nat → Int64} {g : Nat → UInt64} {Δ : dSt} (hσ : cRel σ Δ) (hμ : mRel μ Δ) (x y z : Int32) (hx : xs (4 * t + 1) = x) (hy : xs (4 * t + 2) = y) (hz : xs (4 * t + 3) = z) (kk : ∀ (σ' : cSt) (μ' : mSt) (f' : Nat → Int64) (g' : Nat → UInt64) (Δ' : dSt), cRel σ' Δ' → mRel μ' Δ' → gG p l e room_1 s m args below meth c D A 9 (k + 8) (n + 48) Q (WC (LC q f' g' μ') σ') 2915 [(0, .ref b), (1, .ref (wx q)), (2, .ref (wm q)), (3, .ref (wo q)), (4, .ref (wd q)), (5, .int (nI (4 * t)))] []) : gG p l e room_1 s m args below meth c D A 9 k n Q (WC (LC q f g μ) σ) 372 [(0, .ref b), (1, .ref (wx q)), (2, .ref (wm q)), (3, .ref (wo q)), (4, .ref (wd q)), (5, .int (nI (4 * t)))] [] := by
  have hM := gCm hC
  refine gAloadN (pc := 372) hC dL_law_372 rfl 1 rfl ?_
  refine gAloadN (pc := 373) hC dL_law_373 rfl 0 rfl ?_
  refine gIload (pc := 374) hC dL_law_374 5 rfl ?_
  refine gIconst (pc := 376) hC (v := (nI 1)) dL_law_376 (by decide +kernel) ?_
  refine gIadd (pc := 377) hC (v := nI (4 * t + 1)) dL_law_377 (nI_add _ _) ?_
  refine gSld (pc := 378) hC (v := x) hX (4 * t + 1) rfl (by omega) hN hx dL_law_378 ?_
  refine gAloadN (pc := 379) hC dL_law_379 rfl 0 rfl ?_
  refine gIload (pc := 380) hC dL_law_380 5 rfl ?_
  refine gIconst (pc := 382) hC (v := (nI 2)) dL_law_382 (by decide +kernel) ?_
  refine gIadd (pc := 383) hC (v := nI (4 * t + 2)) dL_law_383 (nI_add _ _) ?_
  refine gSld (pc := 384) hC (v := y) hX (4 * t + 2) rfl (by omega) hN hy dL_law_384 ?_
  refine gAloadN (pc := 385) hC dL_law_385 rfl 0 rfl ?_
  refine gIload (pc := 386) hC dL_law_386 5 rfl ?_
  refine gIconst (pc := 388) hC (v := (nI 3)) dL_law_388 (by decide +kernel) ?_
  refine gIadd (pc := 389) hC (v := nI (4 * t + 3)) dL_law_389 (nI_add _ _) ?_
  refine gSld (pc := 390) hC (v := z) hX (4 * t + 3) rfl (by omega) hN hz dL_law_390 ?_
  refine gAloadN (pc := 391) hC dL_law_391 rfl 3 rfl ?_
  obtain ⟨K, hK⟩ : ∃ K : Nat, K = kk2 (okR x ∧ ¬ y < 0 ∧ ¬ nI (Δ.2.1 (rI x)) < y) (okNum z) := ⟨_, rfl⟩
  have hKn : ¬ K = 0 → ¬ nI K = 0 := by rw [hK]; exact kk2_n
  refine gSW (pc := 392) (rest := []) hC hl9 (c_L_fill l D q σ μ f g Δ x y z hσ) (vx_cwSW 5 hC.2.2.2.2.1 gL_law_L_fill rfl rfl rfl (by decide +kernel) ⟨Nat.le_of_ble_eq_true rfl, Nat.le_of_ble_eq_true rfl⟩) rfl rfl (Nat.le_of_ble_eq_true rfl) dL_law_392 ⟨Nat.le_trans (Nat.add_le_add_left (by decide) _) hk, Nat.le_trans (Nat.add_le_add_left (by decide) _) hn⟩ (fun v w1 hp => ?_)
  have hp : wPost q g μ Δ (dRow Δ (rI x) (Δ.2.1 (rI x)) (fun j => if rI y ≤ j then nu z else (Δ.2.2 (rI x)) j)) K (fun t : Int64 => ∃ v : Int32, t = v.toInt64 ∧ (fun b => b = nI (cd (Δ.2.2 (rI x)) (fun j => if rI y ≤ j then nu z else (Δ.2.2 (rI x)) j) (Δ.2.1 (rI x)))) v) v w1 := by rw [hK]; exact hp
  obtain ⟨rfl, σ1, f1, rfl, h1⟩ := hp
  refine gStk (st' := [.int (nI K)]) (pc' := 395) rfl rfl ?_
  refine gIstore (pc := 395) hC (lv' := [(6, .int (nI K)), (0, .ref b), (1, .ref (wx q)), (2, .ref (wm q)), (3, .ref (wo q)), (4, .ref (wd q)), (5, .int (nI (4 * t)))]) dL_law_395 (by decide) rfl ?_
  refine gAloadN (pc := 397) hC dL_law_397 rfl 3 rfl ?_
  refine gAloadN (pc := 398) hC dL_law_398 rfl 1 rfl ?_
  refine gIload (pc := 399) hC dL_law_399 6 rfl ?_
  refine gIconst (pc := 401) hC (v := (nI 1)) dL_law_401 (by decide +kernel) ?_
  refine gIadd (pc := 402) hC (v := nI (4 * t + 1)) dL_law_402 (nI_add _ _) ?_
  refine gSld (pc := 403) hC (v := x) hX (4 * t + 1) rfl (by omega) hN hx dL_law_403 ?_
  refine gAloadN (pc := 404) hC dL_law_404 rfl 1 rfl ?_
  refine gIload (pc := 405) hC dL_law_405 6 rfl ?_
  refine gIconst (pc := 407) hC (v := (nI 2)) dL_law_407 (by decide +kernel) ?_
  refine gIadd (pc := 408) hC (v := nI (4 * t + 2)) dL_law_408 (nI_add _ _) ?_
  refine gSld (pc := 409) hC (v := y) hX (4 * t + 2) rfl (by omega) hN hy dL_law_409 ?_
  refine gAloadN (pc := 410) hC dL_law_410 rfl 1 rfl ?_
  refine gIload (pc := 411) hC dL_law_411 6 rfl ?_
  refine gIconst (pc := 413) hC (v := (nI 3)) dL_law_413 (by decide +kernel) ?_
  refine gIadd (pc := 414) hC (v := nI (4 * t + 3)) dL_law_414 (nI_add _ _) ?_
  refine gSld (pc := 415) hC (v := z) hX (4 * t + 3) rfl (by omega) hN hz dL_law_415 ?_
  refine gToM ?_
  refine gV (pc := 416) (rest := []) (ci := 2) (q0 := 0) hM (c_X2_fill l D (LM q f1 g σ1) μ Δ x y z hμ) rfl rfl (cwV 3 hC.2.2.2.2.1 gL_law_X2_fill rfl rfl rfl (by decide +kernel) ⟨Nat.le_of_ble_eq_true rfl, Nat.le_of_ble_eq_true rfl⟩) rfl rfl (Nat.le_of_ble_eq_true rfl) dL_law_416 ⟨Nat.le_trans (show k + 2 + 0 ≤ k + 8 by omega) hk, Nat.le_trans (show n + 12 + 0 ≤ n + 48 by omega) hn⟩ (fun v w1 hp => ?_)
  have hp : mPost (LM q f1 g σ1) Δ (dRow Δ (rI x) (Δ.2.1 (rI x)) (fun j => if rI y ≤ j then nu z else (Δ.2.2 (rI x)) j)) K (fun b => b = nI (cd (Δ.2.2 (rI x)) (fun j => if rI y ≤ j then nu z else (Δ.2.2 (rI x)) j) (Δ.2.1 (rI x)))) v w1 := by rw [hK]; exact hp
  obtain ⟨b1, rfl, μ1, rfl, hmt, h2⟩ := hp
  refine gStk (st' := [.int b1]) (pc' := 419) rfl rfl ?_
  have hj := wJoin h1 h2
  refine gIstore (pc := 419) hM (lv' := [(7, .int b1), (6, .int (nI K)), (0, .ref b), (1, .ref (wx q)), (2, .ref (wm q)), (3, .ref (wo q)), (4, .ref (wd q)), (5, .int (nI (4 * t)))]) dL_law_419 (by decide) rfl ?_
  refine gAloadN (pc := 421) hM dL_law_421 rfl 4 rfl ?_
  refine gV (pc := 422) (rest := []) (ci := 2) (q0 := 0) hM (c_X2_thrown l D (LM q f1 g σ1) μ1) rfl rfl (cwV 0 hC.2.2.2.2.1 gL_law_X2_thrown rfl rfl rfl (by decide +kernel) ⟨Nat.le_of_ble_eq_true rfl, Nat.le_of_ble_eq_true rfl⟩) rfl rfl (Nat.le_of_ble_eq_true rfl) dL_law_422 ⟨Nat.le_trans (show k + 2 + 0 ≤ k + 8 by omega) hk, Nat.le_trans (show n + 12 + 0 ≤ n + 48 by omega) hn⟩ (fun v w1 hp => ?_)
  obtain ⟨rfl, rfl⟩ := hp
  refine gStk (st' := [.int (mt μ1)]) (pc' := 425) rfl rfl ?_
  refine gIload (pc := 425) hM dL_law_425 1 rfl ?_
  refine gIcmp_eq (tgt := 432) (pc := 427) hM dL_law_427 (by decide) (fun _ => ?_) (fun h => absurd hmt h)
  rcases hj with ⟨hK0, ⟨hcv, hσ1⟩, hvl, hμ1⟩ | ⟨hK1, hσ1, hμ1⟩
  · skip
    refine gIload (pc := 432) hM dL_law_432 1 rfl ?_
    refine gIf_ne (tgt := 449) (pc := 434) hM dL_law_434 (by decide) (fun h => absurd (by rw [hK0]; rfl) h) (fun _ => ?_)
    obtain ⟨v0, hv0, hcv⟩ := hcv
    have hvb : v0 = b1 := hcv.trans hvl.symm
    refine gAloadN (pc := 437) hM dL_law_437 rfl 5 rfl ?_
    refine gIconst (pc := 438) hM (v := (nI 0)) dL_law_438 (by decide +kernel) ?_
    refine gLald (pc := 439) hM 0 rfl (by decide) (by decide) 9 3 rfl rfl rfl dL_law_439 ?_
    refine gIload (pc := 440) hM dL_law_440 0 rfl ?_
    refine gI2l (pc := 442) hM dL_law_442 rfl ?_
    refine gLcmp (v := nI 0) (pc := 443) hM dL_law_443 (by rw [hv0, hvb]; exact lg_cmp_self _) ?_
    refine gIf_eq (tgt := 449) (pc := 444) hM dL_law_444 (by decide) (fun _ => ?_) (fun h => absurd rfl h)
    refine gGoto (pc := 449) hM (tgt := 2915) dL_law_449 (by decide) ?_
    refine gToC ?_
    refine gLoc (lv' := [(0, .ref b), (1, .ref (wx q)), (2, .ref (wm q)), (3, .ref (wo q)), (4, .ref (wd q)), (5, .int (nI (4 * t)))]) [2, 3, 4, 5, 6, 7] rfl ?_
    exact gWid (show k + 2 + 0 + 0 ≤ k + 8 by omega) (show n + 12 + 0 + 0 ≤ n + 48 by omega) (kk σ1 μ1 f1 g (dRow Δ (rI x) (Δ.2.1 (rI x)) (fun j => if rI y ≤ j then nu z else (Δ.2.2 (rI x)) j)) hσ1 hμ1)
  · skip
    refine gIload (pc := 432) hM dL_law_432 1 rfl ?_
    refine gIf_ne (tgt := 449) (pc := 434) hM dL_law_434 (by decide) (fun _ => ?_) (fun h => absurd h (hKn hK1))
    refine gGoto (pc := 449) hM (tgt := 2915) dL_law_449 (by decide) ?_
    refine gToC ?_
    refine gLoc (lv' := [(0, .ref b), (1, .ref (wx q)), (2, .ref (wm q)), (3, .ref (wo q)), (4, .ref (wd q)), (5, .int (nI (4 * t)))]) [2, 3, 4, 5, 6, 7] rfl ?_
    exact gWid (show k + 2 + 0 + 0 ≤ k + 8 by omega) (show n + 12 + 0 + 0 ≤ n + 48 by omega) (kk σ1 μ1 f1 g (Δ) hσ1 hμ1)

set_option maxRecDepth 100000 in
set_option maxHeartbeats 4000000 in
theorem lk_3 {p : Program} {l : Launch} {e : Env} {s : State} {m : MethodId} {args : Array Value} {below : List Frame} {meth : Method} {c : Code} {D : va_G} {A : Nat → Prop} {Q : State → Prop} (q : wLay) {b N : Nat} {xs : Nat → Int32} (hC : gC p s m args meth c cL_law 9 RL wsL_law D (wTy q) A) (hX : va_X b N xs s s.heap ∧ b < s.heap.size ∧ ¬ A b) (hl9 : l.stackTraces = false) (hN : N ≤ 2048) {t k n : Nat} (ht : 4 * t + 4 ≤ N) (hk : k + 8 ≤ 663840) (hn : n + 48 ≤ 7104584) {σ : cSt} {μ : mSt} {f : Nat → Int64} {g : Nat → UInt64} {Δ : dSt} (hσ : cRel σ Δ) (hμ : mRel μ Δ) (x y z : Int32) (hx : xs (4 * t + 1) = x) (hy : xs (4 * t + 2) = y) (hz : xs (4 * t + 3) = z) (kk : ∀ (σ' : cSt) (μ' : mSt) (f' : Nat → Int64) (g' : Nat → UInt64) (Δ' : dSt), cRel σ' Δ' → mRel μ' Δ' → gG p l e room_1 s m args below meth c D A 9 (k + 8) (n + 48) Q (WC (LC q f' g' μ') σ') 2915 [(0, .ref b), (1, .ref (wx q)), (2, .ref (wm q)), (3, .ref (wo q)), (4, .ref (wd q)), (5, .int (nI (4 * t)))] []) : gG p l e room_1 s m args below meth c D A 9 k n Q (WC (LC q f g μ) σ) 452 [(0, .ref b), (1, .ref (wx q)), (2, .ref (wm q)), (3, .ref (wo q)), (4, .ref (wd q)), (5, .int (nI (4 * t)))] [] := by
  have hM := gCm hC
  refine gAloadN (pc := 452) hC dL_law_452 rfl 1 rfl ?_
  refine gAloadN (pc := 453) hC dL_law_453 rfl 0 rfl ?_
  refine gIload (pc := 454) hC dL_law_454 5 rfl ?_
  refine gIconst (pc := 456) hC (v := (nI 1)) dL_law_456 (by decide +kernel) ?_
  refine gIadd (pc := 457) hC (v := nI (4 * t + 1)) dL_law_457 (nI_add _ _) ?_
  refine gSld (pc := 458) hC (v := x) hX (4 * t + 1) rfl (by omega) hN hx dL_law_458 ?_
  refine gAloadN (pc := 459) hC dL_law_459 rfl 0 rfl ?_
  refine gIload (pc := 460) hC dL_law_460 5 rfl ?_
  refine gIconst (pc := 462) hC (v := (nI 2)) dL_law_462 (by decide +kernel) ?_
  refine gIadd (pc := 463) hC (v := nI (4 * t + 2)) dL_law_463 (nI_add _ _) ?_
  refine gSld (pc := 464) hC (v := y) hX (4 * t + 2) rfl (by omega) hN hy dL_law_464 ?_
  refine gAloadN (pc := 465) hC dL_law_465 rfl 3 rfl ?_
  obtain ⟨K, hK⟩ : ∃ K : Nat, K = kk1 (okR x ∧ okR y) := ⟨_, rfl⟩
  have hKn : ¬ K = 0 → ¬ nI K = 0 := by rw [hK]; exact kk1_n
  refine gSW (pc := 466) (rest := []) hC hl9 (c_L_copy l D q σ μ f g Δ x y hσ) (vx_cwSW 4 hC.2.2.2.2.1 gL_law_L_copy rfl rfl rfl (by decide +kernel) ⟨Nat.le_of_ble_eq_true rfl, Nat.le_of_ble_eq_true rfl⟩) rfl rfl (Nat.le_of_ble_eq_true rfl) dL_law_466 ⟨Nat.le_trans (Nat.add_le_add_left (by decide) _) hk, Nat.le_trans (Nat.add_le_add_left (by decide) _) hn⟩ (fun v w1 hp => ?_)
  have hp : wPost q g μ Δ (dRow Δ (rI y) (Δ.2.1 (rI x)) (Δ.2.2 (rI x))) K (fun t : Int64 => ∃ v : Int32, t = bl v ∧ (fun b => ((b = nI 0 ∧ dLike Δ (rI y) (rI x)) ∨ (b = nI 1 ∧ ¬ dLike Δ (rI y) (rI x)))) v) v w1 := by rw [hK]; exact hp
  obtain ⟨rfl, σ1, f1, rfl, h1⟩ := hp
  refine gStk (st' := [.int (nI K)]) (pc' := 469) rfl rfl ?_
  refine gIstore (pc := 469) hC (lv' := [(6, .int (nI K)), (0, .ref b), (1, .ref (wx q)), (2, .ref (wm q)), (3, .ref (wo q)), (4, .ref (wd q)), (5, .int (nI (4 * t)))]) dL_law_469 (by decide) rfl ?_
  refine gAloadN (pc := 471) hC dL_law_471 rfl 3 rfl ?_
  refine gAloadN (pc := 472) hC dL_law_472 rfl 1 rfl ?_
  refine gIload (pc := 473) hC dL_law_473 6 rfl ?_
  refine gIconst (pc := 475) hC (v := (nI 1)) dL_law_475 (by decide +kernel) ?_
  refine gIadd (pc := 476) hC (v := nI (4 * t + 1)) dL_law_476 (nI_add _ _) ?_
  refine gSld (pc := 477) hC (v := x) hX (4 * t + 1) rfl (by omega) hN hx dL_law_477 ?_
  refine gAloadN (pc := 478) hC dL_law_478 rfl 1 rfl ?_
  refine gIload (pc := 479) hC dL_law_479 6 rfl ?_
  refine gIconst (pc := 481) hC (v := (nI 2)) dL_law_481 (by decide +kernel) ?_
  refine gIadd (pc := 482) hC (v := nI (4 * t + 2)) dL_law_482 (nI_add _ _) ?_
  refine gSld (pc := 483) hC (v := y) hX (4 * t + 2) rfl (by omega) hN hy dL_law_483 ?_
  refine gToM ?_
  refine gV (pc := 484) (rest := []) (ci := 2) (q0 := 0) hM (c_X2_copy l D (LM q f1 g σ1) μ Δ x y hμ) rfl rfl (cwV 2 hC.2.2.2.2.1 gL_law_X2_copy rfl rfl rfl (by decide +kernel) ⟨Nat.le_of_ble_eq_true rfl, Nat.le_of_ble_eq_true rfl⟩) rfl rfl (Nat.le_of_ble_eq_true rfl) dL_law_484 ⟨Nat.le_trans (show k + 2 + 0 ≤ k + 8 by omega) hk, Nat.le_trans (show n + 12 + 0 ≤ n + 48 by omega) hn⟩ (fun v w1 hp => ?_)
  have hp : mPost (LM q f1 g σ1) Δ (dRow Δ (rI y) (Δ.2.1 (rI x)) (Δ.2.2 (rI x))) K (fun b => ((b = nI 0 ∧ dLike Δ (rI y) (rI x)) ∨ (b = nI 1 ∧ ¬ dLike Δ (rI y) (rI x)))) v w1 := by rw [hK]; exact hp
  obtain ⟨b1, rfl, μ1, rfl, hmt, h2⟩ := hp
  refine gStk (st' := [.int b1]) (pc' := 487) rfl rfl ?_
  have hj := wJoin h1 h2
  refine gIstore (pc := 487) hM (lv' := [(7, .int b1), (6, .int (nI K)), (0, .ref b), (1, .ref (wx q)), (2, .ref (wm q)), (3, .ref (wo q)), (4, .ref (wd q)), (5, .int (nI (4 * t)))]) dL_law_487 (by decide) rfl ?_
  refine gAloadN (pc := 489) hM dL_law_489 rfl 4 rfl ?_
  refine gV (pc := 490) (rest := []) (ci := 2) (q0 := 0) hM (c_X2_thrown l D (LM q f1 g σ1) μ1) rfl rfl (cwV 0 hC.2.2.2.2.1 gL_law_X2_thrown rfl rfl rfl (by decide +kernel) ⟨Nat.le_of_ble_eq_true rfl, Nat.le_of_ble_eq_true rfl⟩) rfl rfl (Nat.le_of_ble_eq_true rfl) dL_law_490 ⟨Nat.le_trans (show k + 2 + 0 ≤ k + 8 by omega) hk, Nat.le_trans (show n + 12 + 0 ≤ n + 48 by omega) hn⟩ (fun v w1 hp => ?_)
  obtain ⟨rfl, rfl⟩ := hp
  refine gStk (st' := [.int (mt μ1)]) (pc' := 493) rfl rfl ?_
  refine gIload (pc := 493) hM dL_law_493 1 rfl ?_
  refine gIcmp_eq (tgt := 500) (pc := 495) hM dL_law_495 (by decide) (fun _ => ?_) (fun h => absurd hmt h)
  rcases hj with ⟨hK0, ⟨hcv, hσ1⟩, hvl, hμ1⟩ | ⟨hK1, hσ1, hμ1⟩
  · skip
    refine gIload (pc := 500) hM dL_law_500 1 rfl ?_
    refine gIf_ne (tgt := 524) (pc := 502) hM dL_law_502 (by decide) (fun h => absurd (by rw [hK0]; rfl) h) (fun _ => ?_)
    obtain ⟨v0, hv0, hcv⟩ := hcv
    have hvb : v0 = b1 := by rcases hcv with ⟨a1, a2⟩ | ⟨a1, a2⟩ <;> rcases hvl with ⟨e1, e2⟩ | ⟨e1, e2⟩ <;> first | exact a1.trans e1.symm | exact a2.trans e2.symm | exact absurd a2 e2 | exact absurd e2 a2 | exact absurd a1 e1 | exact absurd e1 a1
    refine gAloadN (pc := 505) hM dL_law_505 rfl 5 rfl ?_
    refine gIconst (pc := 506) hM (v := (nI 0)) dL_law_506 (by decide +kernel) ?_
    refine gLald (pc := 507) hM 0 rfl (by decide) (by decide) 9 3 rfl rfl rfl dL_law_507 ?_
    refine gIload (pc := 508) hM dL_law_508 0 rfl ?_
    refine gNl hM 510 dL_law_510 dL_law_513 dL_law_514 dL_law_517 ?_
    refine gStk (st' := [.long (bl b1), .long (f1 0)]) (pc' := 518) rfl rfl ?_
    refine gLcmp (v := nI 0) (pc := 518) hM dL_law_518 (by rw [hv0, hvb]; exact lg_cmp_self _) ?_
    refine gIf_eq (tgt := 524) (pc := 519) hM dL_law_519 (by decide) (fun _ => ?_) (fun h => absurd rfl h)
    refine gGoto (pc := 524) hM (tgt := 2915) dL_law_524 (by decide) ?_
    refine gToC ?_
    refine gLoc (lv' := [(0, .ref b), (1, .ref (wx q)), (2, .ref (wm q)), (3, .ref (wo q)), (4, .ref (wd q)), (5, .int (nI (4 * t)))]) [2, 3, 4, 5, 6, 7] rfl ?_
    exact gWid (show k + 2 + 0 + 0 ≤ k + 8 by omega) (show n + 12 + 0 + 0 ≤ n + 48 by omega) (kk σ1 μ1 f1 g (dRow Δ (rI y) (Δ.2.1 (rI x)) (Δ.2.2 (rI x))) hσ1 hμ1)
  · skip
    refine gIload (pc := 500) hM dL_law_500 1 rfl ?_
    refine gIf_ne (tgt := 524) (pc := 502) hM dL_law_502 (by decide) (fun _ => ?_) (fun h => absurd h (hKn hK1))
    refine gGoto (pc := 524) hM (tgt := 2915) dL_law_524 (by decide) ?_
    refine gToC ?_
    refine gLoc (lv' := [(0, .ref b), (1, .ref (wx q)), (2, .ref (wm q)), (3, .ref (wo q)), (4, .ref (wd q)), (5, .int (nI (4 * t)))]) [2, 3, 4, 5, 6, 7] rfl ?_
    exact gWid (show k + 2 + 0 + 0 ≤ k + 8 by omega) (show n + 12 + 0 + 0 ≤ n + 48 by omega) (kk σ1 μ1 f1 g (Δ) hσ1 hμ1)

set_option maxRecDepth 100000 in
set_option maxHeartbeats 4000000 in
theorem lk_4 {p : Program} {l : Launch} {e : Env} {s : State} {m : MethodId} {args : Array Value} {below : List Frame} {meth : Method} {c : Code} {D : va_G} {A : Nat → Prop} {Q : State → Prop} (q : wLay) {b N : Nat} {xs : Nat → Int32} (hC : gC p s m args meth c cL_law 9 RL wsL_law D (wTy q) A) (hX : va_X b N xs s s.heap ∧ b < s.heap.size ∧ ¬ A b) (hl9 : l.stackTraces = false) (hN : N ≤ 2048) {t k n : Nat} (ht : 4 * t + 4 ≤ N) (hk : k + 8 ≤ 663840) (hn : n + 48 ≤ 7104584) {σ : cSt} {μ : mSt} {f : Nat → Int64} {g : Nat → UInt64} {Δ : dSt} (hσ : cRel σ Δ) (hμ : mRel μ Δ) (x y z : Int32) (hx : xs (4 * t + 1) = x) (hy : xs (4 * t + 2) = y) (hz : xs (4 * t + 3) = z) (kk : ∀ (σ' : cSt) (μ' : mSt) (f' : Nat → Int64) (g' : Nat → UInt64) (Δ' : dSt), cRel σ' Δ' → mRel μ' Δ' → gG p l e room_1 s m args below meth c D A 9 (k + 8) (n + 48) Q (WC (LC q f' g' μ') σ') 2915 [(0, .ref b), (1, .ref (wx q)), (2, .ref (wm q)), (3, .ref (wo q)), (4, .ref (wd q)), (5, .int (nI (4 * t)))] []) : gG p l e room_1 s m args below meth c D A 9 k n Q (WC (LC q f g μ) σ) 527 [(0, .ref b), (1, .ref (wx q)), (2, .ref (wm q)), (3, .ref (wo q)), (4, .ref (wd q)), (5, .int (nI (4 * t)))] [] := by
  have hM := gCm hC
  refine gAloadN (pc := 527) hC dL_law_527 rfl 1 rfl ?_
  refine gAloadN (pc := 528) hC dL_law_528 rfl 0 rfl ?_
  refine gIload (pc := 529) hC dL_law_529 5 rfl ?_
  refine gIconst (pc := 531) hC (v := (nI 1)) dL_law_531 (by decide +kernel) ?_
  refine gIadd (pc := 532) hC (v := nI (4 * t + 1)) dL_law_532 (nI_add _ _) ?_
  refine gSld (pc := 533) hC (v := x) hX (4 * t + 1) rfl (by omega) hN hx dL_law_533 ?_
  refine gAloadN (pc := 534) hC dL_law_534 rfl 3 rfl ?_
  obtain ⟨K, hK⟩ : ∃ K : Nat, K = kk1 (okR x) := ⟨_, rfl⟩
  have hKn : ¬ K = 0 → ¬ nI K = 0 := by rw [hK]; exact kk1_n
  refine gSW (pc := 535) (rest := []) hC hl9 (c_L_length l D q σ μ f g Δ x hσ) (vx_cwSW 3 hC.2.2.2.2.1 gL_law_L_length rfl rfl rfl (by decide +kernel) ⟨Nat.le_of_ble_eq_true rfl, Nat.le_of_ble_eq_true rfl⟩) rfl rfl (Nat.le_of_ble_eq_true rfl) dL_law_535 ⟨Nat.le_trans (Nat.add_le_add_left (by decide) _) hk, Nat.le_trans (Nat.add_le_add_left (by decide) _) hn⟩ (fun v w1 hp => ?_)
  have hp : wPost q g μ Δ (Δ) K (fun t : Int64 => ∃ v : Int32, t = v.toInt64 ∧ (fun b => b = nI (Δ.2.1 (rI x))) v) v w1 := by rw [hK]; exact hp
  obtain ⟨rfl, σ1, f1, rfl, h1⟩ := hp
  refine gStk (st' := [.int (nI K)]) (pc' := 538) rfl rfl ?_
  refine gIstore (pc := 538) hC (lv' := [(6, .int (nI K)), (0, .ref b), (1, .ref (wx q)), (2, .ref (wm q)), (3, .ref (wo q)), (4, .ref (wd q)), (5, .int (nI (4 * t)))]) dL_law_538 (by decide) rfl ?_
  refine gAloadN (pc := 540) hC dL_law_540 rfl 3 rfl ?_
  refine gAloadN (pc := 541) hC dL_law_541 rfl 1 rfl ?_
  refine gIload (pc := 542) hC dL_law_542 6 rfl ?_
  refine gIconst (pc := 544) hC (v := (nI 1)) dL_law_544 (by decide +kernel) ?_
  refine gIadd (pc := 545) hC (v := nI (4 * t + 1)) dL_law_545 (nI_add _ _) ?_
  refine gSld (pc := 546) hC (v := x) hX (4 * t + 1) rfl (by omega) hN hx dL_law_546 ?_
  refine gToM ?_
  refine gV (pc := 547) (rest := []) (ci := 2) (q0 := 0) hM (c_X2_length l D (LM q f1 g σ1) μ Δ x hμ) rfl rfl (cwV 1 hC.2.2.2.2.1 gL_law_X2_length rfl rfl rfl (by decide +kernel) ⟨Nat.le_of_ble_eq_true rfl, Nat.le_of_ble_eq_true rfl⟩) rfl rfl (Nat.le_of_ble_eq_true rfl) dL_law_547 ⟨Nat.le_trans (show k + 1 + 0 ≤ k + 8 by omega) hk, Nat.le_trans (show n + 6 + 0 ≤ n + 48 by omega) hn⟩ (fun v w1 hp => ?_)
  have hp : mPost (LM q f1 g σ1) Δ (Δ) K (fun b => b = nI (Δ.2.1 (rI x))) v w1 := by rw [hK]; exact hp
  obtain ⟨b1, rfl, μ1, rfl, hmt, h2⟩ := hp
  refine gStk (st' := [.int b1]) (pc' := 550) rfl rfl ?_
  have hj := wJoin h1 h2
  refine gIstore (pc := 550) hM (lv' := [(7, .int b1), (6, .int (nI K)), (0, .ref b), (1, .ref (wx q)), (2, .ref (wm q)), (3, .ref (wo q)), (4, .ref (wd q)), (5, .int (nI (4 * t)))]) dL_law_550 (by decide) rfl ?_
  refine gAloadN (pc := 552) hM dL_law_552 rfl 4 rfl ?_
  refine gV (pc := 553) (rest := []) (ci := 2) (q0 := 0) hM (c_X2_thrown l D (LM q f1 g σ1) μ1) rfl rfl (cwV 0 hC.2.2.2.2.1 gL_law_X2_thrown rfl rfl rfl (by decide +kernel) ⟨Nat.le_of_ble_eq_true rfl, Nat.le_of_ble_eq_true rfl⟩) rfl rfl (Nat.le_of_ble_eq_true rfl) dL_law_553 ⟨Nat.le_trans (show k + 1 + 0 ≤ k + 8 by omega) hk, Nat.le_trans (show n + 6 + 0 ≤ n + 48 by omega) hn⟩ (fun v w1 hp => ?_)
  obtain ⟨rfl, rfl⟩ := hp
  refine gStk (st' := [.int (mt μ1)]) (pc' := 556) rfl rfl ?_
  refine gIload (pc := 556) hM dL_law_556 1 rfl ?_
  refine gIcmp_eq (tgt := 563) (pc := 558) hM dL_law_558 (by decide) (fun _ => ?_) (fun h => absurd hmt h)
  rcases hj with ⟨hK0, ⟨hcv, hσ1⟩, hvl, hμ1⟩ | ⟨hK1, hσ1, hμ1⟩
  · skip
    refine gIload (pc := 563) hM dL_law_563 1 rfl ?_
    refine gIf_ne (tgt := 580) (pc := 565) hM dL_law_565 (by decide) (fun h => absurd (by rw [hK0]; rfl) h) (fun _ => ?_)
    obtain ⟨v0, hv0, hcv⟩ := hcv
    have hvb : v0 = b1 := hcv.trans hvl.symm
    refine gAloadN (pc := 568) hM dL_law_568 rfl 5 rfl ?_
    refine gIconst (pc := 569) hM (v := (nI 0)) dL_law_569 (by decide +kernel) ?_
    refine gLald (pc := 570) hM 0 rfl (by decide) (by decide) 9 3 rfl rfl rfl dL_law_570 ?_
    refine gIload (pc := 571) hM dL_law_571 0 rfl ?_
    refine gI2l (pc := 573) hM dL_law_573 rfl ?_
    refine gLcmp (v := nI 0) (pc := 574) hM dL_law_574 (by rw [hv0, hvb]; exact lg_cmp_self _) ?_
    refine gIf_eq (tgt := 580) (pc := 575) hM dL_law_575 (by decide) (fun _ => ?_) (fun h => absurd rfl h)
    refine gGoto (pc := 580) hM (tgt := 2915) dL_law_580 (by decide) ?_
    refine gToC ?_
    refine gLoc (lv' := [(0, .ref b), (1, .ref (wx q)), (2, .ref (wm q)), (3, .ref (wo q)), (4, .ref (wd q)), (5, .int (nI (4 * t)))]) [2, 3, 4, 5, 6, 7] rfl ?_
    exact gWid (show k + 1 + 0 + 0 ≤ k + 8 by omega) (show n + 6 + 0 + 0 ≤ n + 48 by omega) (kk σ1 μ1 f1 g (Δ) hσ1 hμ1)
  · skip
    refine gIload (pc := 563) hM dL_law_563 1 rfl ?_
    refine gIf_ne (tgt := 580) (pc := 565) hM dL_law_565 (by decide) (fun _ => ?_) (fun h => absurd h (hKn hK1))
    refine gGoto (pc := 580) hM (tgt := 2915) dL_law_580 (by decide) ?_
    refine gToC ?_
    refine gLoc (lv' := [(0, .ref b), (1, .ref (wx q)), (2, .ref (wm q)), (3, .ref (wo q)), (4, .ref (wd q)), (5, .int (nI (4 * t)))]) [2, 3, 4, 5, 6, 7] rfl ?_
    exact gWid (show k + 1 + 0 + 0 ≤ k + 8 by omega) (show n + 6 + 0 + 0 ≤ n + 48 by omega) (kk σ1 μ1 f1 g (Δ) hσ1 hμ1)

set_option maxRecDepth 100000 in
set_option maxHeartbeats 4000000 in
theorem lk_5 {p : Program} {l : Launch} {e : Env} {s : State} {m : MethodId} {args : Array Value} {below : List Frame} {meth : Method} {c : Code} {D : va_G} {A : Nat → Prop} {Q : State → Prop} (q : wLay) {b N : Nat} {xs : Nat → Int32} (hC : gC p s m args meth c cL_law 9 RL wsL_law D (wTy q) A) (hX : va_X b N xs s s.heap ∧ b < s.heap.size ∧ ¬ A b) (hl9 : l.stackTraces = false) (hN : N ≤ 2048) {t k n : Nat} (ht : 4 * t + 4 ≤ N) (hk : k + 8 ≤ 663840) (hn : n + 48 ≤ 7104584) {σ : cSt} {μ : mSt} {f : Nat → Int64} {g : Nat → UInt64} {Δ : dSt} (hσ : cRel σ Δ) (hμ : mRel μ Δ) (x y z : Int32) (hx : xs (4 * t + 1) = x) (hy : xs (4 * t + 2) = y) (hz : xs (4 * t + 3) = z) (kk : ∀ (σ' : cSt) (μ' : mSt) (f' : Nat → Int64) (g' : Nat → UInt64) (Δ' : dSt), cRel σ' Δ' → mRel μ' Δ' → gG p l e room_1 s m args below meth c D A 9 (k + 8) (n + 48) Q (WC (LC q f' g' μ') σ') 2915 [(0, .ref b), (1, .ref (wx q)), (2, .ref (wm q)), (3, .ref (wo q)), (4, .ref (wd q)), (5, .int (nI (4 * t)))] []) : gG p l e room_1 s m args below meth c D A 9 k n Q (WC (LC q f g μ) σ) 583 [(0, .ref b), (1, .ref (wx q)), (2, .ref (wm q)), (3, .ref (wo q)), (4, .ref (wd q)), (5, .int (nI (4 * t)))] [] := by
  have hM := gCm hC
  refine gAloadN (pc := 583) hC dL_law_583 rfl 1 rfl ?_
  refine gAloadN (pc := 584) hC dL_law_584 rfl 0 rfl ?_
  refine gIload (pc := 585) hC dL_law_585 5 rfl ?_
  refine gIconst (pc := 587) hC (v := (nI 1)) dL_law_587 (by decide +kernel) ?_
  refine gIadd (pc := 588) hC (v := nI (4 * t + 1)) dL_law_588 (nI_add _ _) ?_
  refine gSld (pc := 589) hC (v := x) hX (4 * t + 1) rfl (by omega) hN hx dL_law_589 ?_
  refine gAloadN (pc := 590) hC dL_law_590 rfl 0 rfl ?_
  refine gIload (pc := 591) hC dL_law_591 5 rfl ?_
  refine gIconst (pc := 593) hC (v := (nI 2)) dL_law_593 (by decide +kernel) ?_
  refine gIadd (pc := 594) hC (v := nI (4 * t + 2)) dL_law_594 (nI_add _ _) ?_
  refine gSld (pc := 595) hC (v := y) hX (4 * t + 2) rfl (by omega) hN hy dL_law_595 ?_
  refine gAloadN (pc := 596) hC dL_law_596 rfl 3 rfl ?_
  obtain ⟨K, hK⟩ : ∃ K : Nat, K = kk1 (okR x ∧ okP y (Δ.2.1 (rI x))) := ⟨_, rfl⟩
  have hKn : ¬ K = 0 → ¬ nI K = 0 := by rw [hK]; exact kk1_n
  refine gSW (pc := 597) (rest := []) hC hl9 (c_L_number l D q σ μ f g Δ x y hσ) (vx_cwSW 4 hC.2.2.2.2.1 gL_law_L_number rfl rfl rfl (by decide +kernel) ⟨Nat.le_of_ble_eq_true rfl, Nat.le_of_ble_eq_true rfl⟩) rfl rfl (Nat.le_of_ble_eq_true rfl) dL_law_597 ⟨Nat.le_trans (Nat.add_le_add_left (by decide) _) hk, Nat.le_trans (Nat.add_le_add_left (by decide) _) hn⟩ (fun v w1 hp => ?_)
  have hp : wPost q g μ Δ (Δ) K (fun t : Int64 => ∃ v : Int32, t = v.toInt64 ∧ (fun b => b = nI ((Δ.2.2 (rI x)) (rI y)).val) v) v w1 := by rw [hK]; exact hp
  obtain ⟨rfl, σ1, f1, rfl, h1⟩ := hp
  refine gStk (st' := [.int (nI K)]) (pc' := 600) rfl rfl ?_
  refine gIstore (pc := 600) hC (lv' := [(6, .int (nI K)), (0, .ref b), (1, .ref (wx q)), (2, .ref (wm q)), (3, .ref (wo q)), (4, .ref (wd q)), (5, .int (nI (4 * t)))]) dL_law_600 (by decide) rfl ?_
  refine gAloadN (pc := 602) hC dL_law_602 rfl 3 rfl ?_
  refine gAloadN (pc := 603) hC dL_law_603 rfl 1 rfl ?_
  refine gIload (pc := 604) hC dL_law_604 6 rfl ?_
  refine gIconst (pc := 606) hC (v := (nI 1)) dL_law_606 (by decide +kernel) ?_
  refine gIadd (pc := 607) hC (v := nI (4 * t + 1)) dL_law_607 (nI_add _ _) ?_
  refine gSld (pc := 608) hC (v := x) hX (4 * t + 1) rfl (by omega) hN hx dL_law_608 ?_
  refine gAloadN (pc := 609) hC dL_law_609 rfl 1 rfl ?_
  refine gIload (pc := 610) hC dL_law_610 6 rfl ?_
  refine gIconst (pc := 612) hC (v := (nI 2)) dL_law_612 (by decide +kernel) ?_
  refine gIadd (pc := 613) hC (v := nI (4 * t + 2)) dL_law_613 (nI_add _ _) ?_
  refine gSld (pc := 614) hC (v := y) hX (4 * t + 2) rfl (by omega) hN hy dL_law_614 ?_
  refine gToM ?_
  refine gV (pc := 615) (rest := []) (ci := 2) (q0 := 0) hM (c_X2_number l D (LM q f1 g σ1) μ Δ x y hμ) rfl rfl (cwV 2 hC.2.2.2.2.1 gL_law_X2_number rfl rfl rfl (by decide +kernel) ⟨Nat.le_of_ble_eq_true rfl, Nat.le_of_ble_eq_true rfl⟩) rfl rfl (Nat.le_of_ble_eq_true rfl) dL_law_615 ⟨Nat.le_trans (show k + 2 + 0 ≤ k + 8 by omega) hk, Nat.le_trans (show n + 12 + 0 ≤ n + 48 by omega) hn⟩ (fun v w1 hp => ?_)
  have hp : mPost (LM q f1 g σ1) Δ (Δ) K (fun b => b = nI ((Δ.2.2 (rI x)) (rI y)).val) v w1 := by rw [hK]; exact hp
  obtain ⟨b1, rfl, μ1, rfl, hmt, h2⟩ := hp
  refine gStk (st' := [.int b1]) (pc' := 618) rfl rfl ?_
  have hj := wJoin h1 h2
  refine gIstore (pc := 618) hM (lv' := [(7, .int b1), (6, .int (nI K)), (0, .ref b), (1, .ref (wx q)), (2, .ref (wm q)), (3, .ref (wo q)), (4, .ref (wd q)), (5, .int (nI (4 * t)))]) dL_law_618 (by decide) rfl ?_
  refine gAloadN (pc := 620) hM dL_law_620 rfl 4 rfl ?_
  refine gV (pc := 621) (rest := []) (ci := 2) (q0 := 0) hM (c_X2_thrown l D (LM q f1 g σ1) μ1) rfl rfl (cwV 0 hC.2.2.2.2.1 gL_law_X2_thrown rfl rfl rfl (by decide +kernel) ⟨Nat.le_of_ble_eq_true rfl, Nat.le_of_ble_eq_true rfl⟩) rfl rfl (Nat.le_of_ble_eq_true rfl) dL_law_621 ⟨Nat.le_trans (show k + 2 + 0 ≤ k + 8 by omega) hk, Nat.le_trans (show n + 12 + 0 ≤ n + 48 by omega) hn⟩ (fun v w1 hp => ?_)
  obtain ⟨rfl, rfl⟩ := hp
  refine gStk (st' := [.int (mt μ1)]) (pc' := 624) rfl rfl ?_
  refine gIload (pc := 624) hM dL_law_624 1 rfl ?_
  refine gIcmp_eq (tgt := 631) (pc := 626) hM dL_law_626 (by decide) (fun _ => ?_) (fun h => absurd hmt h)
  rcases hj with ⟨hK0, ⟨hcv, hσ1⟩, hvl, hμ1⟩ | ⟨hK1, hσ1, hμ1⟩
  · skip
    refine gIload (pc := 631) hM dL_law_631 1 rfl ?_
    refine gIf_ne (tgt := 648) (pc := 633) hM dL_law_633 (by decide) (fun h => absurd (by rw [hK0]; rfl) h) (fun _ => ?_)
    obtain ⟨v0, hv0, hcv⟩ := hcv
    have hvb : v0 = b1 := hcv.trans hvl.symm
    refine gAloadN (pc := 636) hM dL_law_636 rfl 5 rfl ?_
    refine gIconst (pc := 637) hM (v := (nI 0)) dL_law_637 (by decide +kernel) ?_
    refine gLald (pc := 638) hM 0 rfl (by decide) (by decide) 9 3 rfl rfl rfl dL_law_638 ?_
    refine gIload (pc := 639) hM dL_law_639 0 rfl ?_
    refine gI2l (pc := 641) hM dL_law_641 rfl ?_
    refine gLcmp (v := nI 0) (pc := 642) hM dL_law_642 (by rw [hv0, hvb]; exact lg_cmp_self _) ?_
    refine gIf_eq (tgt := 648) (pc := 643) hM dL_law_643 (by decide) (fun _ => ?_) (fun h => absurd rfl h)
    refine gGoto (pc := 648) hM (tgt := 2915) dL_law_648 (by decide) ?_
    refine gToC ?_
    refine gLoc (lv' := [(0, .ref b), (1, .ref (wx q)), (2, .ref (wm q)), (3, .ref (wo q)), (4, .ref (wd q)), (5, .int (nI (4 * t)))]) [2, 3, 4, 5, 6, 7] rfl ?_
    exact gWid (show k + 2 + 0 + 0 ≤ k + 8 by omega) (show n + 12 + 0 + 0 ≤ n + 48 by omega) (kk σ1 μ1 f1 g (Δ) hσ1 hμ1)
  · skip
    refine gIload (pc := 631) hM dL_law_631 1 rfl ?_
    refine gIf_ne (tgt := 648) (pc := 633) hM dL_law_633 (by decide) (fun _ => ?_) (fun h => absurd h (hKn hK1))
    refine gGoto (pc := 648) hM (tgt := 2915) dL_law_648 (by decide) ?_
    refine gToC ?_
    refine gLoc (lv' := [(0, .ref b), (1, .ref (wx q)), (2, .ref (wm q)), (3, .ref (wo q)), (4, .ref (wd q)), (5, .int (nI (4 * t)))]) [2, 3, 4, 5, 6, 7] rfl ?_
    exact gWid (show k + 2 + 0 + 0 ≤ k + 8 by omega) (show n + 12 + 0 + 0 ≤ n + 48 by omega) (kk σ1 μ1 f1 g (Δ) hσ1 hμ1)

set_option maxRecDepth 100000 in
set_option maxHeartbeats 4000000 in
theorem lk_6 {p : Program} {l : Launch} {e : Env} {s : State} {m : MethodId} {args : Array Value} {below : List Frame} {meth : Method} {c : Code} {D : va_G} {A : Nat → Prop} {Q : State → Prop} (q : wLay) {b N : Nat} {xs : Nat → Int32} (hC : gC p s m args meth c cL_law 9 RL wsL_law D (wTy q) A) (hX : va_X b N xs s s.heap ∧ b < s.heap.size ∧ ¬ A b) (hl9 : l.stackTraces = false) (hN : N ≤ 2048) {t k n : Nat} (ht : 4 * t + 4 ≤ N) (hk : k + 8 ≤ 663840) (hn : n + 48 ≤ 7104584) {σ : cSt} {μ : mSt} {f : Nat → Int64} {g : Nat → UInt64} {Δ : dSt} (hσ : cRel σ Δ) (hμ : mRel μ Δ) (x y z : Int32) (hx : xs (4 * t + 1) = x) (hy : xs (4 * t + 2) = y) (hz : xs (4 * t + 3) = z) (kk : ∀ (σ' : cSt) (μ' : mSt) (f' : Nat → Int64) (g' : Nat → UInt64) (Δ' : dSt), cRel σ' Δ' → mRel μ' Δ' → gG p l e room_1 s m args below meth c D A 9 (k + 8) (n + 48) Q (WC (LC q f' g' μ') σ') 2915 [(0, .ref b), (1, .ref (wx q)), (2, .ref (wm q)), (3, .ref (wo q)), (4, .ref (wd q)), (5, .int (nI (4 * t)))] []) : gG p l e room_1 s m args below meth c D A 9 k n Q (WC (LC q f g μ) σ) 651 [(0, .ref b), (1, .ref (wx q)), (2, .ref (wm q)), (3, .ref (wo q)), (4, .ref (wd q)), (5, .int (nI (4 * t)))] [] := by
  have hM := gCm hC
  refine gAloadN (pc := 651) hC dL_law_651 rfl 1 rfl ?_
  refine gAloadN (pc := 652) hC dL_law_652 rfl 0 rfl ?_
  refine gIload (pc := 653) hC dL_law_653 5 rfl ?_
  refine gIconst (pc := 655) hC (v := (nI 1)) dL_law_655 (by decide +kernel) ?_
  refine gIadd (pc := 656) hC (v := nI (4 * t + 1)) dL_law_656 (nI_add _ _) ?_
  refine gSld (pc := 657) hC (v := x) hX (4 * t + 1) rfl (by omega) hN hx dL_law_657 ?_
  refine gAloadN (pc := 658) hC dL_law_658 rfl 3 rfl ?_
  obtain ⟨K, hK⟩ : ∃ K : Nat, K = kk1 (¬ x < nI 1 ∧ ¬ nI 31 < x ∧ ¬ x &&& nI 1 = 0) := ⟨_, rfl⟩
  have hKn : ¬ K = 0 → ¬ nI K = 0 := by rw [hK]; exact kk1_n
  refine gSW (pc := 659) (rest := []) hC hl9 (c_L_useOdd l D q σ μ f g Δ x hσ) (vx_cwSW 3 hC.2.2.2.2.1 gL_law_L_useOdd rfl rfl rfl (by decide +kernel) ⟨Nat.le_of_ble_eq_true rfl, Nat.le_of_ble_eq_true rfl⟩) rfl rfl (Nat.le_of_ble_eq_true rfl) dL_law_659 ⟨Nat.le_trans (Nat.add_le_add_left (by decide) _) hk, Nat.le_trans (Nat.add_le_add_left (by decide) _) hn⟩ (fun v w1 hp => ?_)
  have hp : wPost q g μ Δ (rI x, Δ.2) K (fun t : Int64 => ∃ v : Int32, t = v.toInt64 ∧ (fun b => b = nI Δ.1) v) v w1 := by rw [hK]; exact hp
  obtain ⟨rfl, σ1, f1, rfl, h1⟩ := hp
  refine gStk (st' := [.int (nI K)]) (pc' := 662) rfl rfl ?_
  refine gIstore (pc := 662) hC (lv' := [(6, .int (nI K)), (0, .ref b), (1, .ref (wx q)), (2, .ref (wm q)), (3, .ref (wo q)), (4, .ref (wd q)), (5, .int (nI (4 * t)))]) dL_law_662 (by decide) rfl ?_
  refine gAloadN (pc := 664) hC dL_law_664 rfl 3 rfl ?_
  refine gAloadN (pc := 665) hC dL_law_665 rfl 1 rfl ?_
  refine gIload (pc := 666) hC dL_law_666 6 rfl ?_
  refine gIconst (pc := 668) hC (v := (nI 1)) dL_law_668 (by decide +kernel) ?_
  refine gIadd (pc := 669) hC (v := nI (4 * t + 1)) dL_law_669 (nI_add _ _) ?_
  refine gSld (pc := 670) hC (v := x) hX (4 * t + 1) rfl (by omega) hN hx dL_law_670 ?_
  refine gToM ?_
  refine gV (pc := 671) (rest := []) (ci := 2) (q0 := 0) hM (c_X2_useOdd l D (LM q f1 g σ1) μ Δ x hμ) rfl rfl (cwV 1 hC.2.2.2.2.1 gL_law_X2_useOdd rfl rfl rfl (by decide +kernel) ⟨Nat.le_of_ble_eq_true rfl, Nat.le_of_ble_eq_true rfl⟩) rfl rfl (Nat.le_of_ble_eq_true rfl) dL_law_671 ⟨Nat.le_trans (show k + 1 + 0 ≤ k + 8 by omega) hk, Nat.le_trans (show n + 6 + 0 ≤ n + 48 by omega) hn⟩ (fun v w1 hp => ?_)
  have hp : mPost (LM q f1 g σ1) Δ (rI x, Δ.2) K (fun b => b = nI Δ.1) v w1 := by rw [hK]; exact hp
  obtain ⟨b1, rfl, μ1, rfl, hmt, h2⟩ := hp
  refine gStk (st' := [.int b1]) (pc' := 674) rfl rfl ?_
  have hj := wJoin h1 h2
  refine gIstore (pc := 674) hM (lv' := [(7, .int b1), (6, .int (nI K)), (0, .ref b), (1, .ref (wx q)), (2, .ref (wm q)), (3, .ref (wo q)), (4, .ref (wd q)), (5, .int (nI (4 * t)))]) dL_law_674 (by decide) rfl ?_
  refine gAloadN (pc := 676) hM dL_law_676 rfl 4 rfl ?_
  refine gV (pc := 677) (rest := []) (ci := 2) (q0 := 0) hM (c_X2_thrown l D (LM q f1 g σ1) μ1) rfl rfl (cwV 0 hC.2.2.2.2.1 gL_law_X2_thrown rfl rfl rfl (by decide +kernel) ⟨Nat.le_of_ble_eq_true rfl, Nat.le_of_ble_eq_true rfl⟩) rfl rfl (Nat.le_of_ble_eq_true rfl) dL_law_677 ⟨Nat.le_trans (show k + 1 + 0 ≤ k + 8 by omega) hk, Nat.le_trans (show n + 6 + 0 ≤ n + 48 by omega) hn⟩ (fun v w1 hp => ?_)
  obtain ⟨rfl, rfl⟩ := hp
  refine gStk (st' := [.int (mt μ1)]) (pc' := 680) rfl rfl ?_
  refine gIload (pc := 680) hM dL_law_680 1 rfl ?_
  refine gIcmp_eq (tgt := 687) (pc := 682) hM dL_law_682 (by decide) (fun _ => ?_) (fun h => absurd hmt h)
  rcases hj with ⟨hK0, ⟨hcv, hσ1⟩, hvl, hμ1⟩ | ⟨hK1, hσ1, hμ1⟩
  · skip
    refine gIload (pc := 687) hM dL_law_687 1 rfl ?_
    refine gIf_ne (tgt := 704) (pc := 689) hM dL_law_689 (by decide) (fun h => absurd (by rw [hK0]; rfl) h) (fun _ => ?_)
    obtain ⟨v0, hv0, hcv⟩ := hcv
    have hvb : v0 = b1 := hcv.trans hvl.symm
    refine gAloadN (pc := 692) hM dL_law_692 rfl 5 rfl ?_
    refine gIconst (pc := 693) hM (v := (nI 0)) dL_law_693 (by decide +kernel) ?_
    refine gLald (pc := 694) hM 0 rfl (by decide) (by decide) 9 3 rfl rfl rfl dL_law_694 ?_
    refine gIload (pc := 695) hM dL_law_695 0 rfl ?_
    refine gI2l (pc := 697) hM dL_law_697 rfl ?_
    refine gLcmp (v := nI 0) (pc := 698) hM dL_law_698 (by rw [hv0, hvb]; exact lg_cmp_self _) ?_
    refine gIf_eq (tgt := 704) (pc := 699) hM dL_law_699 (by decide) (fun _ => ?_) (fun h => absurd rfl h)
    refine gGoto (pc := 704) hM (tgt := 2915) dL_law_704 (by decide) ?_
    refine gToC ?_
    refine gLoc (lv' := [(0, .ref b), (1, .ref (wx q)), (2, .ref (wm q)), (3, .ref (wo q)), (4, .ref (wd q)), (5, .int (nI (4 * t)))]) [2, 3, 4, 5, 6, 7] rfl ?_
    exact gWid (show k + 1 + 0 + 0 ≤ k + 8 by omega) (show n + 6 + 0 + 0 ≤ n + 48 by omega) (kk σ1 μ1 f1 g (rI x, Δ.2) hσ1 hμ1)
  · skip
    refine gIload (pc := 687) hM dL_law_687 1 rfl ?_
    refine gIf_ne (tgt := 704) (pc := 689) hM dL_law_689 (by decide) (fun _ => ?_) (fun h => absurd h (hKn hK1))
    refine gGoto (pc := 704) hM (tgt := 2915) dL_law_704 (by decide) ?_
    refine gToC ?_
    refine gLoc (lv' := [(0, .ref b), (1, .ref (wx q)), (2, .ref (wm q)), (3, .ref (wo q)), (4, .ref (wd q)), (5, .int (nI (4 * t)))]) [2, 3, 4, 5, 6, 7] rfl ?_
    exact gWid (show k + 1 + 0 + 0 ≤ k + 8 by omega) (show n + 6 + 0 + 0 ≤ n + 48 by omega) (kk σ1 μ1 f1 g (Δ) hσ1 hμ1)

set_option maxRecDepth 100000 in
set_option maxHeartbeats 4000000 in
theorem lk_7 {p : Program} {l : Launch} {e : Env} {s : State} {m : MethodId} {args : Array Value} {below : List Frame} {meth : Method} {c : Code} {D : va_G} {A : Nat → Prop} {Q : State → Prop} (q : wLay) {b N : Nat} {xs : Nat → Int32} (hC : gC p s m args meth c cL_law 9 RL wsL_law D (wTy q) A) (hX : va_X b N xs s s.heap ∧ b < s.heap.size ∧ ¬ A b) (hl9 : l.stackTraces = false) (hN : N ≤ 2048) {t k n : Nat} (ht : 4 * t + 4 ≤ N) (hk : k + 8 ≤ 663840) (hn : n + 48 ≤ 7104584) {σ : cSt} {μ : mSt} {f : Nat → Int64} {g : Nat → UInt64} {Δ : dSt} (hσ : cRel σ Δ) (hμ : mRel μ Δ) (x y z : Int32) (hx : xs (4 * t + 1) = x) (hy : xs (4 * t + 2) = y) (hz : xs (4 * t + 3) = z) (kk : ∀ (σ' : cSt) (μ' : mSt) (f' : Nat → Int64) (g' : Nat → UInt64) (Δ' : dSt), cRel σ' Δ' → mRel μ' Δ' → gG p l e room_1 s m args below meth c D A 9 (k + 8) (n + 48) Q (WC (LC q f' g' μ') σ') 2915 [(0, .ref b), (1, .ref (wx q)), (2, .ref (wm q)), (3, .ref (wo q)), (4, .ref (wd q)), (5, .int (nI (4 * t)))] []) : gG p l e room_1 s m args below meth c D A 9 k n Q (WC (LC q f g μ) σ) 707 [(0, .ref b), (1, .ref (wx q)), (2, .ref (wm q)), (3, .ref (wo q)), (4, .ref (wd q)), (5, .int (nI (4 * t)))] [] := by
  have hM := gCm hC
  refine gAloadN (pc := 707) hC dL_law_707 rfl 1 rfl ?_
  refine gAloadN (pc := 708) hC dL_law_708 rfl 0 rfl ?_
  refine gIload (pc := 709) hC dL_law_709 5 rfl ?_
  refine gIconst (pc := 711) hC (v := (nI 1)) dL_law_711 (by decide +kernel) ?_
  refine gIadd (pc := 712) hC (v := nI (4 * t + 1)) dL_law_712 (nI_add _ _) ?_
  refine gSld (pc := 713) hC (v := x) hX (4 * t + 1) rfl (by omega) hN hx dL_law_713 ?_
  refine gAloadN (pc := 714) hC dL_law_714 rfl 3 rfl ?_
  obtain ⟨K, hK⟩ : ∃ K : Nat, K = kk1 (okLI x) := ⟨_, rfl⟩
  have hKn : ¬ K = 0 → ¬ nI K = 0 := by rw [hK]; exact kk1_n
  refine gSW (pc := 715) (rest := []) hC hl9 (c_L_root l D q σ μ f g Δ x hσ) (vx_cwSW 3 hC.2.2.2.2.1 gL_law_L_root rfl rfl rfl (by decide +kernel) ⟨Nat.le_of_ble_eq_true rfl, Nat.le_of_ble_eq_true rfl⟩) rfl rfl (Nat.le_of_ble_eq_true rfl) dL_law_715 ⟨Nat.le_trans (Nat.add_le_add_left (by decide) _) hk, Nat.le_trans (Nat.add_le_add_left (by decide) _) hn⟩ (fun v w1 hp => ?_)
  have hp : wPost q g μ Δ (Δ) K (fun t : Int64 => ∃ v : Int32, t = v.toInt64 ∧ (fun b => b = nI (pz (un Δ.1 (rI x) * 1)).val) v) v w1 := by rw [hK]; exact hp
  obtain ⟨rfl, σ1, f1, rfl, h1⟩ := hp
  refine gStk (st' := [.int (nI K)]) (pc' := 718) rfl rfl ?_
  refine gIstore (pc := 718) hC (lv' := [(6, .int (nI K)), (0, .ref b), (1, .ref (wx q)), (2, .ref (wm q)), (3, .ref (wo q)), (4, .ref (wd q)), (5, .int (nI (4 * t)))]) dL_law_718 (by decide) rfl ?_
  refine gAloadN (pc := 720) hC dL_law_720 rfl 3 rfl ?_
  refine gAloadN (pc := 721) hC dL_law_721 rfl 1 rfl ?_
  refine gIload (pc := 722) hC dL_law_722 6 rfl ?_
  refine gIconst (pc := 724) hC (v := (nI 1)) dL_law_724 (by decide +kernel) ?_
  refine gIadd (pc := 725) hC (v := nI (4 * t + 1)) dL_law_725 (nI_add _ _) ?_
  refine gSld (pc := 726) hC (v := x) hX (4 * t + 1) rfl (by omega) hN hx dL_law_726 ?_
  refine gToM ?_
  refine gV (pc := 727) (rest := []) (ci := 2) (q0 := 0) hM (c_X2_root l D (LM q f1 g σ1) μ Δ x hμ) rfl rfl (cwV 1 hC.2.2.2.2.1 gL_law_X2_root rfl rfl rfl (by decide +kernel) ⟨Nat.le_of_ble_eq_true rfl, Nat.le_of_ble_eq_true rfl⟩) rfl rfl (Nat.le_of_ble_eq_true rfl) dL_law_727 ⟨Nat.le_trans (show k + 1 + 0 ≤ k + 8 by omega) hk, Nat.le_trans (show n + 6 + 0 ≤ n + 48 by omega) hn⟩ (fun v w1 hp => ?_)
  have hp : mPost (LM q f1 g σ1) Δ (Δ) K (fun b => b = nI (pz (un Δ.1 (rI x) * 1)).val) v w1 := by rw [hK]; exact hp
  obtain ⟨b1, rfl, μ1, rfl, hmt, h2⟩ := hp
  refine gStk (st' := [.int b1]) (pc' := 730) rfl rfl ?_
  have hj := wJoin h1 h2
  refine gIstore (pc := 730) hM (lv' := [(7, .int b1), (6, .int (nI K)), (0, .ref b), (1, .ref (wx q)), (2, .ref (wm q)), (3, .ref (wo q)), (4, .ref (wd q)), (5, .int (nI (4 * t)))]) dL_law_730 (by decide) rfl ?_
  refine gAloadN (pc := 732) hM dL_law_732 rfl 4 rfl ?_
  refine gV (pc := 733) (rest := []) (ci := 2) (q0 := 0) hM (c_X2_thrown l D (LM q f1 g σ1) μ1) rfl rfl (cwV 0 hC.2.2.2.2.1 gL_law_X2_thrown rfl rfl rfl (by decide +kernel) ⟨Nat.le_of_ble_eq_true rfl, Nat.le_of_ble_eq_true rfl⟩) rfl rfl (Nat.le_of_ble_eq_true rfl) dL_law_733 ⟨Nat.le_trans (show k + 1 + 0 ≤ k + 8 by omega) hk, Nat.le_trans (show n + 6 + 0 ≤ n + 48 by omega) hn⟩ (fun v w1 hp => ?_)
  obtain ⟨rfl, rfl⟩ := hp
  refine gStk (st' := [.int (mt μ1)]) (pc' := 736) rfl rfl ?_
  refine gIload (pc := 736) hM dL_law_736 1 rfl ?_
  refine gIcmp_eq (tgt := 743) (pc := 738) hM dL_law_738 (by decide) (fun _ => ?_) (fun h => absurd hmt h)
  rcases hj with ⟨hK0, ⟨hcv, hσ1⟩, hvl, hμ1⟩ | ⟨hK1, hσ1, hμ1⟩
  · skip
    refine gIload (pc := 743) hM dL_law_743 1 rfl ?_
    refine gIf_ne (tgt := 760) (pc := 745) hM dL_law_745 (by decide) (fun h => absurd (by rw [hK0]; rfl) h) (fun _ => ?_)
    obtain ⟨v0, hv0, hcv⟩ := hcv
    have hvb : v0 = b1 := hcv.trans hvl.symm
    refine gAloadN (pc := 748) hM dL_law_748 rfl 5 rfl ?_
    refine gIconst (pc := 749) hM (v := (nI 0)) dL_law_749 (by decide +kernel) ?_
    refine gLald (pc := 750) hM 0 rfl (by decide) (by decide) 9 3 rfl rfl rfl dL_law_750 ?_
    refine gIload (pc := 751) hM dL_law_751 0 rfl ?_
    refine gI2l (pc := 753) hM dL_law_753 rfl ?_
    refine gLcmp (v := nI 0) (pc := 754) hM dL_law_754 (by rw [hv0, hvb]; exact lg_cmp_self _) ?_
    refine gIf_eq (tgt := 760) (pc := 755) hM dL_law_755 (by decide) (fun _ => ?_) (fun h => absurd rfl h)
    refine gGoto (pc := 760) hM (tgt := 2915) dL_law_760 (by decide) ?_
    refine gToC ?_
    refine gLoc (lv' := [(0, .ref b), (1, .ref (wx q)), (2, .ref (wm q)), (3, .ref (wo q)), (4, .ref (wd q)), (5, .int (nI (4 * t)))]) [2, 3, 4, 5, 6, 7] rfl ?_
    exact gWid (show k + 1 + 0 + 0 ≤ k + 8 by omega) (show n + 6 + 0 + 0 ≤ n + 48 by omega) (kk σ1 μ1 f1 g (Δ) hσ1 hμ1)
  · skip
    refine gIload (pc := 743) hM dL_law_743 1 rfl ?_
    refine gIf_ne (tgt := 760) (pc := 745) hM dL_law_745 (by decide) (fun _ => ?_) (fun h => absurd h (hKn hK1))
    refine gGoto (pc := 760) hM (tgt := 2915) dL_law_760 (by decide) ?_
    refine gToC ?_
    refine gLoc (lv' := [(0, .ref b), (1, .ref (wx q)), (2, .ref (wm q)), (3, .ref (wo q)), (4, .ref (wd q)), (5, .int (nI (4 * t)))]) [2, 3, 4, 5, 6, 7] rfl ?_
    exact gWid (show k + 1 + 0 + 0 ≤ k + 8 by omega) (show n + 6 + 0 + 0 ≤ n + 48 by omega) (kk σ1 μ1 f1 g (Δ) hσ1 hμ1)

set_option maxRecDepth 100000 in
set_option maxHeartbeats 4000000 in
theorem lk_8 {p : Program} {l : Launch} {e : Env} {s : State} {m : MethodId} {args : Array Value} {below : List Frame} {meth : Method} {c : Code} {D : va_G} {A : Nat → Prop} {Q : State → Prop} (q : wLay) {b N : Nat} {xs : Nat → Int32} (hC : gC p s m args meth c cL_law 9 RL wsL_law D (wTy q) A) (hX : va_X b N xs s s.heap ∧ b < s.heap.size ∧ ¬ A b) (hl9 : l.stackTraces = false) (hN : N ≤ 2048) {t k n : Nat} (ht : 4 * t + 4 ≤ N) (hk : k + 8 ≤ 663840) (hn : n + 48 ≤ 7104584) {σ : cSt} {μ : mSt} {f : Nat → Int64} {g : Nat → UInt64} {Δ : dSt} (hσ : cRel σ Δ) (hμ : mRel μ Δ) (x y z : Int32) (hx : xs (4 * t + 1) = x) (hy : xs (4 * t + 2) = y) (hz : xs (4 * t + 3) = z) (kk : ∀ (σ' : cSt) (μ' : mSt) (f' : Nat → Int64) (g' : Nat → UInt64) (Δ' : dSt), cRel σ' Δ' → mRel μ' Δ' → gG p l e room_1 s m args below meth c D A 9 (k + 8) (n + 48) Q (WC (LC q f' g' μ') σ') 2915 [(0, .ref b), (1, .ref (wx q)), (2, .ref (wm q)), (3, .ref (wo q)), (4, .ref (wd q)), (5, .int (nI (4 * t)))] []) : gG p l e room_1 s m args below meth c D A 9 k n Q (WC (LC q f g μ) σ) 763 [(0, .ref b), (1, .ref (wx q)), (2, .ref (wm q)), (3, .ref (wo q)), (4, .ref (wd q)), (5, .int (nI (4 * t)))] [] := by
  have hM := gCm hC
  refine gAloadN (pc := 763) hC dL_law_763 rfl 1 rfl ?_
  refine gAloadN (pc := 764) hC dL_law_764 rfl 0 rfl ?_
  refine gIload (pc := 765) hC dL_law_765 5 rfl ?_
  refine gIconst (pc := 767) hC (v := (nI 1)) dL_law_767 (by decide +kernel) ?_
  refine gIadd (pc := 768) hC (v := nI (4 * t + 1)) dL_law_768 (nI_add _ _) ?_
  refine gSld (pc := 769) hC (v := x) hX (4 * t + 1) rfl (by omega) hN hx dL_law_769 ?_
  refine gAloadN (pc := 770) hC dL_law_770 rfl 0 rfl ?_
  refine gIload (pc := 771) hC dL_law_771 5 rfl ?_
  refine gIconst (pc := 773) hC (v := (nI 2)) dL_law_773 (by decide +kernel) ?_
  refine gIadd (pc := 774) hC (v := nI (4 * t + 2)) dL_law_774 (nI_add _ _) ?_
  refine gSld (pc := 775) hC (v := y) hX (4 * t + 2) rfl (by omega) hN hy dL_law_775 ?_
  refine gAloadN (pc := 776) hC dL_law_776 rfl 3 rfl ?_
  obtain ⟨K, hK⟩ : ∃ K : Nat, K = kk1 (okLI x) := ⟨_, rfl⟩
  have hKn : ¬ K = 0 → ¬ nI K = 0 := by rw [hK]; exact kk1_n
  refine gSW (pc := 777) (rest := []) hC hl9 (c_L_power l D q σ μ f g Δ x y hσ) (vx_cwSW 4 hC.2.2.2.2.1 gL_law_L_power rfl rfl rfl (by decide +kernel) ⟨Nat.le_of_ble_eq_true rfl, Nat.le_of_ble_eq_true rfl⟩) rfl rfl (Nat.le_of_ble_eq_true rfl) dL_law_777 ⟨Nat.le_trans (Nat.add_le_add_left (by decide) _) hk, Nat.le_trans (Nat.add_le_add_left (by decide) _) hn⟩ (fun v w1 hp => ?_)
  have hp : wPost q g μ Δ (Δ) K (fun t : Int64 => ∃ v : Int32, t = v.toInt64 ∧ (fun b => b = nI (pz (un Δ.1 (rI x) * y.toInt)).val) v) v w1 := by rw [hK]; exact hp
  obtain ⟨rfl, σ1, f1, rfl, h1⟩ := hp
  refine gStk (st' := [.int (nI K)]) (pc' := 780) rfl rfl ?_
  refine gIstore (pc := 780) hC (lv' := [(6, .int (nI K)), (0, .ref b), (1, .ref (wx q)), (2, .ref (wm q)), (3, .ref (wo q)), (4, .ref (wd q)), (5, .int (nI (4 * t)))]) dL_law_780 (by decide) rfl ?_
  refine gAloadN (pc := 782) hC dL_law_782 rfl 3 rfl ?_
  refine gAloadN (pc := 783) hC dL_law_783 rfl 1 rfl ?_
  refine gIload (pc := 784) hC dL_law_784 6 rfl ?_
  refine gIconst (pc := 786) hC (v := (nI 1)) dL_law_786 (by decide +kernel) ?_
  refine gIadd (pc := 787) hC (v := nI (4 * t + 1)) dL_law_787 (nI_add _ _) ?_
  refine gSld (pc := 788) hC (v := x) hX (4 * t + 1) rfl (by omega) hN hx dL_law_788 ?_
  refine gAloadN (pc := 789) hC dL_law_789 rfl 1 rfl ?_
  refine gIload (pc := 790) hC dL_law_790 6 rfl ?_
  refine gIconst (pc := 792) hC (v := (nI 2)) dL_law_792 (by decide +kernel) ?_
  refine gIadd (pc := 793) hC (v := nI (4 * t + 2)) dL_law_793 (nI_add _ _) ?_
  refine gSld (pc := 794) hC (v := y) hX (4 * t + 2) rfl (by omega) hN hy dL_law_794 ?_
  refine gToM ?_
  refine gV (pc := 795) (rest := []) (ci := 2) (q0 := 0) hM (c_X2_power l D (LM q f1 g σ1) μ Δ x y hμ) rfl rfl (cwV 2 hC.2.2.2.2.1 gL_law_X2_power rfl rfl rfl (by decide +kernel) ⟨Nat.le_of_ble_eq_true rfl, Nat.le_of_ble_eq_true rfl⟩) rfl rfl (Nat.le_of_ble_eq_true rfl) dL_law_795 ⟨Nat.le_trans (show k + 1 + 0 ≤ k + 8 by omega) hk, Nat.le_trans (show n + 6 + 0 ≤ n + 48 by omega) hn⟩ (fun v w1 hp => ?_)
  have hp : mPost (LM q f1 g σ1) Δ (Δ) K (fun b => b = nI (pz (un Δ.1 (rI x) * y.toInt)).val) v w1 := by rw [hK]; exact hp
  obtain ⟨b1, rfl, μ1, rfl, hmt, h2⟩ := hp
  refine gStk (st' := [.int b1]) (pc' := 798) rfl rfl ?_
  have hj := wJoin h1 h2
  refine gIstore (pc := 798) hM (lv' := [(7, .int b1), (6, .int (nI K)), (0, .ref b), (1, .ref (wx q)), (2, .ref (wm q)), (3, .ref (wo q)), (4, .ref (wd q)), (5, .int (nI (4 * t)))]) dL_law_798 (by decide) rfl ?_
  refine gAloadN (pc := 800) hM dL_law_800 rfl 4 rfl ?_
  refine gV (pc := 801) (rest := []) (ci := 2) (q0 := 0) hM (c_X2_thrown l D (LM q f1 g σ1) μ1) rfl rfl (cwV 0 hC.2.2.2.2.1 gL_law_X2_thrown rfl rfl rfl (by decide +kernel) ⟨Nat.le_of_ble_eq_true rfl, Nat.le_of_ble_eq_true rfl⟩) rfl rfl (Nat.le_of_ble_eq_true rfl) dL_law_801 ⟨Nat.le_trans (show k + 1 + 0 ≤ k + 8 by omega) hk, Nat.le_trans (show n + 6 + 0 ≤ n + 48 by omega) hn⟩ (fun v w1 hp => ?_)
  obtain ⟨rfl, rfl⟩ := hp
  refine gStk (st' := [.int (mt μ1)]) (pc' := 804) rfl rfl ?_
  refine gIload (pc := 804) hM dL_law_804 1 rfl ?_
  refine gIcmp_eq (tgt := 811) (pc := 806) hM dL_law_806 (by decide) (fun _ => ?_) (fun h => absurd hmt h)
  rcases hj with ⟨hK0, ⟨hcv, hσ1⟩, hvl, hμ1⟩ | ⟨hK1, hσ1, hμ1⟩
  · skip
    refine gIload (pc := 811) hM dL_law_811 1 rfl ?_
    refine gIf_ne (tgt := 828) (pc := 813) hM dL_law_813 (by decide) (fun h => absurd (by rw [hK0]; rfl) h) (fun _ => ?_)
    obtain ⟨v0, hv0, hcv⟩ := hcv
    have hvb : v0 = b1 := hcv.trans hvl.symm
    refine gAloadN (pc := 816) hM dL_law_816 rfl 5 rfl ?_
    refine gIconst (pc := 817) hM (v := (nI 0)) dL_law_817 (by decide +kernel) ?_
    refine gLald (pc := 818) hM 0 rfl (by decide) (by decide) 9 3 rfl rfl rfl dL_law_818 ?_
    refine gIload (pc := 819) hM dL_law_819 0 rfl ?_
    refine gI2l (pc := 821) hM dL_law_821 rfl ?_
    refine gLcmp (v := nI 0) (pc := 822) hM dL_law_822 (by rw [hv0, hvb]; exact lg_cmp_self _) ?_
    refine gIf_eq (tgt := 828) (pc := 823) hM dL_law_823 (by decide) (fun _ => ?_) (fun h => absurd rfl h)
    refine gGoto (pc := 828) hM (tgt := 2915) dL_law_828 (by decide) ?_
    refine gToC ?_
    refine gLoc (lv' := [(0, .ref b), (1, .ref (wx q)), (2, .ref (wm q)), (3, .ref (wo q)), (4, .ref (wd q)), (5, .int (nI (4 * t)))]) [2, 3, 4, 5, 6, 7] rfl ?_
    exact gWid (show k + 1 + 0 + 0 ≤ k + 8 by omega) (show n + 6 + 0 + 0 ≤ n + 48 by omega) (kk σ1 μ1 f1 g (Δ) hσ1 hμ1)
  · skip
    refine gIload (pc := 811) hM dL_law_811 1 rfl ?_
    refine gIf_ne (tgt := 828) (pc := 813) hM dL_law_813 (by decide) (fun _ => ?_) (fun h => absurd h (hKn hK1))
    refine gGoto (pc := 828) hM (tgt := 2915) dL_law_828 (by decide) ?_
    refine gToC ?_
    refine gLoc (lv' := [(0, .ref b), (1, .ref (wx q)), (2, .ref (wm q)), (3, .ref (wo q)), (4, .ref (wd q)), (5, .int (nI (4 * t)))]) [2, 3, 4, 5, 6, 7] rfl ?_
    exact gWid (show k + 1 + 0 + 0 ≤ k + 8 by omega) (show n + 6 + 0 + 0 ≤ n + 48 by omega) (kk σ1 μ1 f1 g (Δ) hσ1 hμ1)

set_option maxRecDepth 100000 in
set_option maxHeartbeats 4000000 in
theorem lk_9 {p : Program} {l : Launch} {e : Env} {s : State} {m : MethodId} {args : Array Value} {below : List Frame} {meth : Method} {c : Code} {D : va_G} {A : Nat → Prop} {Q : State → Prop} (q : wLay) {b N : Nat} {xs : Nat → Int32} (hC : gC p s m args meth c cL_law 9 RL wsL_law D (wTy q) A) (hX : va_X b N xs s s.heap ∧ b < s.heap.size ∧ ¬ A b) (hl9 : l.stackTraces = false) (hN : N ≤ 2048) {t k n : Nat} (ht : 4 * t + 4 ≤ N) (hk : k + 8 ≤ 663840) (hn : n + 48 ≤ 7104584) {σ : cSt} {μ : mSt} {f : Nat → Int64} {g : Nat → UInt64} {Δ : dSt} (hσ : cRel σ Δ) (hμ : mRel μ Δ) (x y z : Int32) (hx : xs (4 * t + 1) = x) (hy : xs (4 * t + 2) = y) (hz : xs (4 * t + 3) = z) (kk : ∀ (σ' : cSt) (μ' : mSt) (f' : Nat → Int64) (g' : Nat → UInt64) (Δ' : dSt), cRel σ' Δ' → mRel μ' Δ' → gG p l e room_1 s m args below meth c D A 9 (k + 8) (n + 48) Q (WC (LC q f' g' μ') σ') 2915 [(0, .ref b), (1, .ref (wx q)), (2, .ref (wm q)), (3, .ref (wo q)), (4, .ref (wd q)), (5, .int (nI (4 * t)))] []) : gG p l e room_1 s m args below meth c D A 9 k n Q (WC (LC q f g μ) σ) 831 [(0, .ref b), (1, .ref (wx q)), (2, .ref (wm q)), (3, .ref (wo q)), (4, .ref (wd q)), (5, .int (nI (4 * t)))] [] := by
  have hM := gCm hC
  refine gAloadN (pc := 831) hC dL_law_831 rfl 1 rfl ?_
  refine gAloadN (pc := 832) hC dL_law_832 rfl 0 rfl ?_
  refine gIload (pc := 833) hC dL_law_833 5 rfl ?_
  refine gIconst (pc := 835) hC (v := (nI 1)) dL_law_835 (by decide +kernel) ?_
  refine gIadd (pc := 836) hC (v := nI (4 * t + 1)) dL_law_836 (nI_add _ _) ?_
  refine gSld (pc := 837) hC (v := x) hX (4 * t + 1) rfl (by omega) hN hx dL_law_837 ?_
  refine gAloadN (pc := 838) hC dL_law_838 rfl 0 rfl ?_
  refine gIload (pc := 839) hC dL_law_839 5 rfl ?_
  refine gIconst (pc := 841) hC (v := (nI 2)) dL_law_841 (by decide +kernel) ?_
  refine gIadd (pc := 842) hC (v := nI (4 * t + 2)) dL_law_842 (nI_add _ _) ?_
  refine gSld (pc := 843) hC (v := y) hX (4 * t + 2) rfl (by omega) hN hy dL_law_843 ?_
  refine gNz hC 844 dL_law_844 dL_law_847 dL_law_848 dL_law_851 ?_
  refine gStk (st' := [.int (bz y), .int x, .ref (wx q)]) (pc' := 852) rfl rfl ?_
  refine gAloadN (pc := 852) hC dL_law_852 rfl 3 rfl ?_
  obtain ⟨K, hK⟩ : ∃ K : Nat, K = kk1 (okR x) := ⟨_, rfl⟩
  have hKn : ¬ K = 0 → ¬ nI K = 0 := by rw [hK]; exact kk1_n
  refine gSW (pc := 853) (rest := []) hC hl9 (c_L_values l D q σ μ f g Δ x (bz y) hσ) (vx_cwSW 4 hC.2.2.2.2.1 gL_law_L_values rfl rfl rfl (by decide +kernel) ⟨Nat.le_of_ble_eq_true rfl, Nat.le_of_ble_eq_true rfl⟩) rfl rfl (Nat.le_of_ble_eq_true rfl) dL_law_853 ⟨Nat.le_trans (Nat.add_le_add_left (by decide) _) hk, Nat.le_trans (Nat.add_le_add_left (by decide) _) hn⟩ (fun v w1 hp => ?_)
  have hp : wPost q g μ Δ (dRow Δ (rI x) (Δ.2.1 (rI x)) (ps (Δ.2.1 (rI x)) (un Δ.1 (Δ.2.1 (rI x))) 1 (Δ.2.2 (rI x)))) K (fun t : Int64 => ∃ v : Int32, t = v.toInt64 ∧ (fun b => b = nI (cz (ps (Δ.2.1 (rI x)) (un Δ.1 (Δ.2.1 (rI x))) 1 (Δ.2.2 (rI x))) (Δ.2.1 (rI x)))) v) v w1 := by rw [hK]; exact hp
  obtain ⟨rfl, σ1, f1, rfl, h1⟩ := hp
  refine gStk (st' := [.int (nI K)]) (pc' := 856) rfl rfl ?_
  refine gIstore (pc := 856) hC (lv' := [(6, .int (nI K)), (0, .ref b), (1, .ref (wx q)), (2, .ref (wm q)), (3, .ref (wo q)), (4, .ref (wd q)), (5, .int (nI (4 * t)))]) dL_law_856 (by decide) rfl ?_
  refine gAloadN (pc := 858) hC dL_law_858 rfl 3 rfl ?_
  refine gAloadN (pc := 859) hC dL_law_859 rfl 1 rfl ?_
  refine gIload (pc := 860) hC dL_law_860 6 rfl ?_
  refine gIconst (pc := 862) hC (v := (nI 1)) dL_law_862 (by decide +kernel) ?_
  refine gIadd (pc := 863) hC (v := nI (4 * t + 1)) dL_law_863 (nI_add _ _) ?_
  refine gSld (pc := 864) hC (v := x) hX (4 * t + 1) rfl (by omega) hN hx dL_law_864 ?_
  refine gAloadN (pc := 865) hC dL_law_865 rfl 1 rfl ?_
  refine gIload (pc := 866) hC dL_law_866 6 rfl ?_
  refine gIconst (pc := 868) hC (v := (nI 2)) dL_law_868 (by decide +kernel) ?_
  refine gIadd (pc := 869) hC (v := nI (4 * t + 2)) dL_law_869 (nI_add _ _) ?_
  refine gSld (pc := 870) hC (v := y) hX (4 * t + 2) rfl (by omega) hN hy dL_law_870 ?_
  refine gNz hC 871 dL_law_871 dL_law_874 dL_law_875 dL_law_878 ?_
  refine gStk (st' := [.int (bz y), .int x, .ref (wm q)]) (pc' := 879) rfl rfl ?_
  refine gToM ?_
  refine gV (pc := 879) (rest := []) (ci := 2) (q0 := 0) hM (c_X2_values l D (LM q f1 g σ1) μ Δ x (bz y) hμ) rfl rfl (cwV 2 hC.2.2.2.2.1 gL_law_X2_values rfl rfl rfl (by decide +kernel) ⟨Nat.le_of_ble_eq_true rfl, Nat.le_of_ble_eq_true rfl⟩) rfl rfl (Nat.le_of_ble_eq_true rfl) dL_law_879 ⟨Nat.le_trans (show k + 1 + 0 ≤ k + 8 by omega) hk, Nat.le_trans (show n + 6 + 0 ≤ n + 48 by omega) hn⟩ (fun v w1 hp => ?_)
  have hp : mPost (LM q f1 g σ1) Δ (dRow Δ (rI x) (Δ.2.1 (rI x)) (ps (Δ.2.1 (rI x)) (un Δ.1 (Δ.2.1 (rI x))) 1 (Δ.2.2 (rI x)))) K (fun b => b = nI (cz (ps (Δ.2.1 (rI x)) (un Δ.1 (Δ.2.1 (rI x))) 1 (Δ.2.2 (rI x))) (Δ.2.1 (rI x)))) v w1 := by rw [hK]; exact hp
  obtain ⟨b1, rfl, μ1, rfl, hmt, h2⟩ := hp
  refine gStk (st' := [.int b1]) (pc' := 882) rfl rfl ?_
  have hj := wJoin h1 h2
  refine gIstore (pc := 882) hM (lv' := [(7, .int b1), (6, .int (nI K)), (0, .ref b), (1, .ref (wx q)), (2, .ref (wm q)), (3, .ref (wo q)), (4, .ref (wd q)), (5, .int (nI (4 * t)))]) dL_law_882 (by decide) rfl ?_
  refine gAloadN (pc := 884) hM dL_law_884 rfl 4 rfl ?_
  refine gV (pc := 885) (rest := []) (ci := 2) (q0 := 0) hM (c_X2_thrown l D (LM q f1 g σ1) μ1) rfl rfl (cwV 0 hC.2.2.2.2.1 gL_law_X2_thrown rfl rfl rfl (by decide +kernel) ⟨Nat.le_of_ble_eq_true rfl, Nat.le_of_ble_eq_true rfl⟩) rfl rfl (Nat.le_of_ble_eq_true rfl) dL_law_885 ⟨Nat.le_trans (show k + 1 + 0 ≤ k + 8 by omega) hk, Nat.le_trans (show n + 6 + 0 ≤ n + 48 by omega) hn⟩ (fun v w1 hp => ?_)
  obtain ⟨rfl, rfl⟩ := hp
  refine gStk (st' := [.int (mt μ1)]) (pc' := 888) rfl rfl ?_
  refine gIload (pc := 888) hM dL_law_888 1 rfl ?_
  refine gIcmp_eq (tgt := 895) (pc := 890) hM dL_law_890 (by decide) (fun _ => ?_) (fun h => absurd hmt h)
  rcases hj with ⟨hK0, ⟨hcv, hσ1⟩, hvl, hμ1⟩ | ⟨hK1, hσ1, hμ1⟩
  · skip
    refine gIload (pc := 895) hM dL_law_895 1 rfl ?_
    refine gIf_ne (tgt := 912) (pc := 897) hM dL_law_897 (by decide) (fun h => absurd (by rw [hK0]; rfl) h) (fun _ => ?_)
    obtain ⟨v0, hv0, hcv⟩ := hcv
    have hvb : v0 = b1 := hcv.trans hvl.symm
    refine gAloadN (pc := 900) hM dL_law_900 rfl 5 rfl ?_
    refine gIconst (pc := 901) hM (v := (nI 0)) dL_law_901 (by decide +kernel) ?_
    refine gLald (pc := 902) hM 0 rfl (by decide) (by decide) 9 3 rfl rfl rfl dL_law_902 ?_
    refine gIload (pc := 903) hM dL_law_903 0 rfl ?_
    refine gI2l (pc := 905) hM dL_law_905 rfl ?_
    refine gLcmp (v := nI 0) (pc := 906) hM dL_law_906 (by rw [hv0, hvb]; exact lg_cmp_self _) ?_
    refine gIf_eq (tgt := 912) (pc := 907) hM dL_law_907 (by decide) (fun _ => ?_) (fun h => absurd rfl h)
    refine gGoto (pc := 912) hM (tgt := 2915) dL_law_912 (by decide) ?_
    refine gToC ?_
    refine gLoc (lv' := [(0, .ref b), (1, .ref (wx q)), (2, .ref (wm q)), (3, .ref (wo q)), (4, .ref (wd q)), (5, .int (nI (4 * t)))]) [2, 3, 4, 5, 6, 7] rfl ?_
    exact gWid (show k + 1 + 0 + 0 ≤ k + 8 by omega) (show n + 6 + 0 + 0 ≤ n + 48 by omega) (kk σ1 μ1 f1 g (dRow Δ (rI x) (Δ.2.1 (rI x)) (ps (Δ.2.1 (rI x)) (un Δ.1 (Δ.2.1 (rI x))) 1 (Δ.2.2 (rI x)))) hσ1 hμ1)
  · skip
    refine gIload (pc := 895) hM dL_law_895 1 rfl ?_
    refine gIf_ne (tgt := 912) (pc := 897) hM dL_law_897 (by decide) (fun _ => ?_) (fun h => absurd h (hKn hK1))
    refine gGoto (pc := 912) hM (tgt := 2915) dL_law_912 (by decide) ?_
    refine gToC ?_
    refine gLoc (lv' := [(0, .ref b), (1, .ref (wx q)), (2, .ref (wm q)), (3, .ref (wo q)), (4, .ref (wd q)), (5, .int (nI (4 * t)))]) [2, 3, 4, 5, 6, 7] rfl ?_
    exact gWid (show k + 1 + 0 + 0 ≤ k + 8 by omega) (show n + 6 + 0 + 0 ≤ n + 48 by omega) (kk σ1 μ1 f1 g (Δ) hσ1 hμ1)

set_option maxRecDepth 100000 in
set_option maxHeartbeats 4000000 in
theorem lk_10 {p : Program} {l : Launch} {e : Env} {s : State} {m : MethodId} {args : Array Value} {below : List Frame} {meth : Method} {c : Code} {D : va_G} {A : Nat → Prop} {Q : State → Prop} (q : wLay) {b N : Nat} {xs : Nat → Int32} (hC : gC p s m args meth c cL_law 9 RL wsL_law D (wTy q) A) (hX : va_X b N xs s s.heap ∧ b < s.heap.size ∧ ¬ A b) (hl9 : l.stackTraces = false) (hN : N ≤ 2048) {t k n : Nat} (ht : 4 * t + 4 ≤ N) (hk : k + 8 ≤ 663840) (hn : n + 48 ≤ 7104584) {σ : cSt} {μ : mSt} {f : Nat → Int64} {g : Nat → UInt64} {Δ : dSt} (hσ : cRel σ Δ) (hμ : mRel μ Δ) (x y z : Int32) (hx : xs (4 * t + 1) = x) (hy : xs (4 * t + 2) = y) (hz : xs (4 * t + 3) = z) (kk : ∀ (σ' : cSt) (μ' : mSt) (f' : Nat → Int64) (g' : Nat → UInt64) (Δ' : dSt), cRel σ' Δ' → mRel μ' Δ' → gG p l e room_1 s m args below meth c D A 9 (k + 8) (n + 48) Q (WC (LC q f' g' μ') σ') 2915 [(0, .ref b), (1, .ref (wx q)), (2, .ref (wm q)), (3, .ref (wo q)), (4, .ref (wd q)), (5, .int (nI (4 * t)))] []) : gG p l e room_1 s m args below meth c D A 9 k n Q (WC (LC q f g μ) σ) 915 [(0, .ref b), (1, .ref (wx q)), (2, .ref (wm q)), (3, .ref (wo q)), (4, .ref (wd q)), (5, .int (nI (4 * t)))] [] := by
  have hM := gCm hC
  refine gAloadN (pc := 915) hC dL_law_915 rfl 1 rfl ?_
  refine gAloadN (pc := 916) hC dL_law_916 rfl 0 rfl ?_
  refine gIload (pc := 917) hC dL_law_917 5 rfl ?_
  refine gIconst (pc := 919) hC (v := (nI 1)) dL_law_919 (by decide +kernel) ?_
  refine gIadd (pc := 920) hC (v := nI (4 * t + 1)) dL_law_920 (nI_add _ _) ?_
  refine gSld (pc := 921) hC (v := x) hX (4 * t + 1) rfl (by omega) hN hx dL_law_921 ?_
  refine gAloadN (pc := 922) hC dL_law_922 rfl 3 rfl ?_
  obtain ⟨K, hK⟩ : ∃ K : Nat, K = kk1 (okR x) := ⟨_, rfl⟩
  have hKn : ¬ K = 0 → ¬ nI K = 0 := by rw [hK]; exact kk1_n
  refine gSW (pc := 923) (rest := []) hC hl9 (c_L_back l D q σ μ f g Δ x hσ) (vx_cwSW 3 hC.2.2.2.2.1 gL_law_L_back rfl rfl rfl (by decide +kernel) ⟨Nat.le_of_ble_eq_true rfl, Nat.le_of_ble_eq_true rfl⟩) rfl rfl (Nat.le_of_ble_eq_true rfl) dL_law_923 ⟨Nat.le_trans (Nat.add_le_add_left (by decide) _) hk, Nat.le_trans (Nat.add_le_add_left (by decide) _) hn⟩ (fun v w1 hp => ?_)
  have hp : wPost q g μ Δ (dRow Δ (rI x) (Δ.2.1 (rI x)) (bk (Δ.2.1 (rI x)) (un Δ.1 (Δ.2.1 (rI x))) (Δ.2.2 (rI x)))) K (fun t : Int64 => ∃ v : Int32, t = v.toInt64 ∧ (fun b => b = nI (cz (bk (Δ.2.1 (rI x)) (un Δ.1 (Δ.2.1 (rI x))) (Δ.2.2 (rI x))) (Δ.2.1 (rI x)))) v) v w1 := by rw [hK]; exact hp
  obtain ⟨rfl, σ1, f1, rfl, h1⟩ := hp
  refine gStk (st' := [.int (nI K)]) (pc' := 926) rfl rfl ?_
  refine gIstore (pc := 926) hC (lv' := [(6, .int (nI K)), (0, .ref b), (1, .ref (wx q)), (2, .ref (wm q)), (3, .ref (wo q)), (4, .ref (wd q)), (5, .int (nI (4 * t)))]) dL_law_926 (by decide) rfl ?_
  refine gAloadN (pc := 928) hC dL_law_928 rfl 3 rfl ?_
  refine gAloadN (pc := 929) hC dL_law_929 rfl 1 rfl ?_
  refine gIload (pc := 930) hC dL_law_930 6 rfl ?_
  refine gIconst (pc := 932) hC (v := (nI 1)) dL_law_932 (by decide +kernel) ?_
  refine gIadd (pc := 933) hC (v := nI (4 * t + 1)) dL_law_933 (nI_add _ _) ?_
  refine gSld (pc := 934) hC (v := x) hX (4 * t + 1) rfl (by omega) hN hx dL_law_934 ?_
  refine gToM ?_
  refine gV (pc := 935) (rest := []) (ci := 2) (q0 := 0) hM (c_X2_back l D (LM q f1 g σ1) μ Δ x hμ) rfl rfl (cwV 1 hC.2.2.2.2.1 gL_law_X2_back rfl rfl rfl (by decide +kernel) ⟨Nat.le_of_ble_eq_true rfl, Nat.le_of_ble_eq_true rfl⟩) rfl rfl (Nat.le_of_ble_eq_true rfl) dL_law_935 ⟨Nat.le_trans (show k + 1 + 0 ≤ k + 8 by omega) hk, Nat.le_trans (show n + 6 + 0 ≤ n + 48 by omega) hn⟩ (fun v w1 hp => ?_)
  have hp : mPost (LM q f1 g σ1) Δ (dRow Δ (rI x) (Δ.2.1 (rI x)) (bk (Δ.2.1 (rI x)) (un Δ.1 (Δ.2.1 (rI x))) (Δ.2.2 (rI x)))) K (fun b => b = nI (cz (bk (Δ.2.1 (rI x)) (un Δ.1 (Δ.2.1 (rI x))) (Δ.2.2 (rI x))) (Δ.2.1 (rI x)))) v w1 := by rw [hK]; exact hp
  obtain ⟨b1, rfl, μ1, rfl, hmt, h2⟩ := hp
  refine gStk (st' := [.int b1]) (pc' := 938) rfl rfl ?_
  have hj := wJoin h1 h2
  refine gIstore (pc := 938) hM (lv' := [(7, .int b1), (6, .int (nI K)), (0, .ref b), (1, .ref (wx q)), (2, .ref (wm q)), (3, .ref (wo q)), (4, .ref (wd q)), (5, .int (nI (4 * t)))]) dL_law_938 (by decide) rfl ?_
  refine gAloadN (pc := 940) hM dL_law_940 rfl 4 rfl ?_
  refine gV (pc := 941) (rest := []) (ci := 2) (q0 := 0) hM (c_X2_thrown l D (LM q f1 g σ1) μ1) rfl rfl (cwV 0 hC.2.2.2.2.1 gL_law_X2_thrown rfl rfl rfl (by decide +kernel) ⟨Nat.le_of_ble_eq_true rfl, Nat.le_of_ble_eq_true rfl⟩) rfl rfl (Nat.le_of_ble_eq_true rfl) dL_law_941 ⟨Nat.le_trans (show k + 1 + 0 ≤ k + 8 by omega) hk, Nat.le_trans (show n + 6 + 0 ≤ n + 48 by omega) hn⟩ (fun v w1 hp => ?_)
  obtain ⟨rfl, rfl⟩ := hp
  refine gStk (st' := [.int (mt μ1)]) (pc' := 944) rfl rfl ?_
  refine gIload (pc := 944) hM dL_law_944 1 rfl ?_
  refine gIcmp_eq (tgt := 951) (pc := 946) hM dL_law_946 (by decide) (fun _ => ?_) (fun h => absurd hmt h)
  rcases hj with ⟨hK0, ⟨hcv, hσ1⟩, hvl, hμ1⟩ | ⟨hK1, hσ1, hμ1⟩
  · skip
    refine gIload (pc := 951) hM dL_law_951 1 rfl ?_
    refine gIf_ne (tgt := 968) (pc := 953) hM dL_law_953 (by decide) (fun h => absurd (by rw [hK0]; rfl) h) (fun _ => ?_)
    obtain ⟨v0, hv0, hcv⟩ := hcv
    have hvb : v0 = b1 := hcv.trans hvl.symm
    refine gAloadN (pc := 956) hM dL_law_956 rfl 5 rfl ?_
    refine gIconst (pc := 957) hM (v := (nI 0)) dL_law_957 (by decide +kernel) ?_
    refine gLald (pc := 958) hM 0 rfl (by decide) (by decide) 9 3 rfl rfl rfl dL_law_958 ?_
    refine gIload (pc := 959) hM dL_law_959 0 rfl ?_
    refine gI2l (pc := 961) hM dL_law_961 rfl ?_
    refine gLcmp (v := nI 0) (pc := 962) hM dL_law_962 (by rw [hv0, hvb]; exact lg_cmp_self _) ?_
    refine gIf_eq (tgt := 968) (pc := 963) hM dL_law_963 (by decide) (fun _ => ?_) (fun h => absurd rfl h)
    refine gGoto (pc := 968) hM (tgt := 2915) dL_law_968 (by decide) ?_
    refine gToC ?_
    refine gLoc (lv' := [(0, .ref b), (1, .ref (wx q)), (2, .ref (wm q)), (3, .ref (wo q)), (4, .ref (wd q)), (5, .int (nI (4 * t)))]) [2, 3, 4, 5, 6, 7] rfl ?_
    exact gWid (show k + 1 + 0 + 0 ≤ k + 8 by omega) (show n + 6 + 0 + 0 ≤ n + 48 by omega) (kk σ1 μ1 f1 g (dRow Δ (rI x) (Δ.2.1 (rI x)) (bk (Δ.2.1 (rI x)) (un Δ.1 (Δ.2.1 (rI x))) (Δ.2.2 (rI x)))) hσ1 hμ1)
  · skip
    refine gIload (pc := 951) hM dL_law_951 1 rfl ?_
    refine gIf_ne (tgt := 968) (pc := 953) hM dL_law_953 (by decide) (fun _ => ?_) (fun h => absurd h (hKn hK1))
    refine gGoto (pc := 968) hM (tgt := 2915) dL_law_968 (by decide) ?_
    refine gToC ?_
    refine gLoc (lv' := [(0, .ref b), (1, .ref (wx q)), (2, .ref (wm q)), (3, .ref (wo q)), (4, .ref (wd q)), (5, .int (nI (4 * t)))]) [2, 3, 4, 5, 6, 7] rfl ?_
    exact gWid (show k + 1 + 0 + 0 ≤ k + 8 by omega) (show n + 6 + 0 + 0 ≤ n + 48 by omega) (kk σ1 μ1 f1 g (Δ) hσ1 hμ1)

set_option maxRecDepth 100000 in
set_option maxHeartbeats 4000000 in
theorem lk_11 {p : Program} {l : Launch} {e : Env} {s : State} {m : MethodId} {args : Array Value} {below : List Frame} {meth : Method} {c : Code} {D : va_G} {A : Nat → Prop} {Q : State → Prop} (q : wLay) {b N : Nat} {xs : Nat → Int32} (hC : gC p s m args meth c cL_law 9 RL wsL_law D (wTy q) A) (hX : va_X b N xs s s.heap ∧ b < s.heap.size ∧ ¬ A b) (hl9 : l.stackTraces = false) (hN : N ≤ 2048) {t k n : Nat} (ht : 4 * t + 4 ≤ N) (hk : k + 8 ≤ 663840) (hn : n + 48 ≤ 7104584) {σ : cSt} {μ : mSt} {f : Nat → Int64} {g : Nat → UInt64} {Δ : dSt} (hσ : cRel σ Δ) (hμ : mRel μ Δ) (x y z : Int32) (hx : xs (4 * t + 1) = x) (hy : xs (4 * t + 2) = y) (hz : xs (4 * t + 3) = z) (kk : ∀ (σ' : cSt) (μ' : mSt) (f' : Nat → Int64) (g' : Nat → UInt64) (Δ' : dSt), cRel σ' Δ' → mRel μ' Δ' → gG p l e room_1 s m args below meth c D A 9 (k + 8) (n + 48) Q (WC (LC q f' g' μ') σ') 2915 [(0, .ref b), (1, .ref (wx q)), (2, .ref (wm q)), (3, .ref (wo q)), (4, .ref (wd q)), (5, .int (nI (4 * t)))] []) : gG p l e room_1 s m args below meth c D A 9 k n Q (WC (LC q f g μ) σ) 971 [(0, .ref b), (1, .ref (wx q)), (2, .ref (wm q)), (3, .ref (wo q)), (4, .ref (wd q)), (5, .int (nI (4 * t)))] [] := by
  have hM := gCm hC
  refine gAloadN (pc := 971) hC dL_law_971 rfl 1 rfl ?_
  refine gAloadN (pc := 972) hC dL_law_972 rfl 0 rfl ?_
  refine gIload (pc := 973) hC dL_law_973 5 rfl ?_
  refine gIconst (pc := 975) hC (v := (nI 1)) dL_law_975 (by decide +kernel) ?_
  refine gIadd (pc := 976) hC (v := nI (4 * t + 1)) dL_law_976 (nI_add _ _) ?_
  refine gSld (pc := 977) hC (v := x) hX (4 * t + 1) rfl (by omega) hN hx dL_law_977 ?_
  refine gAloadN (pc := 978) hC dL_law_978 rfl 0 rfl ?_
  refine gIload (pc := 979) hC dL_law_979 5 rfl ?_
  refine gIconst (pc := 981) hC (v := (nI 2)) dL_law_981 (by decide +kernel) ?_
  refine gIadd (pc := 982) hC (v := nI (4 * t + 2)) dL_law_982 (nI_add _ _) ?_
  refine gSld (pc := 983) hC (v := y) hX (4 * t + 2) rfl (by omega) hN hy dL_law_983 ?_
  refine gAloadN (pc := 984) hC dL_law_984 rfl 3 rfl ?_
  obtain ⟨K, hK⟩ : ∃ K : Nat, K = kk2 (okR x) (okNum y) := ⟨_, rfl⟩
  have hKn : ¬ K = 0 → ¬ nI K = 0 := by rw [hK]; exact kk2_n
  refine gSW (pc := 985) (rest := []) hC hl9 (c_L_valueAt l D q σ μ f g Δ x y hσ) (vx_cwSW 4 hC.2.2.2.2.1 gL_law_L_valueAt rfl rfl rfl (by decide +kernel) ⟨Nat.le_of_ble_eq_true rfl, Nat.le_of_ble_eq_true rfl⟩) rfl rfl (Nat.le_of_ble_eq_true rfl) dL_law_985 ⟨Nat.le_trans (Nat.add_le_add_left (by decide) _) hk, Nat.le_trans (Nat.add_le_add_left (by decide) _) hn⟩ (fun v w1 hp => ?_)
  have hp : wPost q g μ Δ (Δ) K (fun t : Int64 => ∃ v : Int32, t = v.toInt64 ∧ (fun b => b = nI (hrn (Δ.2.2 (rI x)) (nu y) (Δ.2.1 (rI x)) 0).val) v) v w1 := by rw [hK]; exact hp
  obtain ⟨rfl, σ1, f1, rfl, h1⟩ := hp
  refine gStk (st' := [.int (nI K)]) (pc' := 988) rfl rfl ?_
  refine gIstore (pc := 988) hC (lv' := [(6, .int (nI K)), (0, .ref b), (1, .ref (wx q)), (2, .ref (wm q)), (3, .ref (wo q)), (4, .ref (wd q)), (5, .int (nI (4 * t)))]) dL_law_988 (by decide) rfl ?_
  refine gAloadN (pc := 990) hC dL_law_990 rfl 3 rfl ?_
  refine gAloadN (pc := 991) hC dL_law_991 rfl 1 rfl ?_
  refine gIload (pc := 992) hC dL_law_992 6 rfl ?_
  refine gIconst (pc := 994) hC (v := (nI 1)) dL_law_994 (by decide +kernel) ?_
  refine gIadd (pc := 995) hC (v := nI (4 * t + 1)) dL_law_995 (nI_add _ _) ?_
  refine gSld (pc := 996) hC (v := x) hX (4 * t + 1) rfl (by omega) hN hx dL_law_996 ?_
  refine gAloadN (pc := 997) hC dL_law_997 rfl 1 rfl ?_
  refine gIload (pc := 998) hC dL_law_998 6 rfl ?_
  refine gIconst (pc := 1000) hC (v := (nI 2)) dL_law_1000 (by decide +kernel) ?_
  refine gIadd (pc := 1001) hC (v := nI (4 * t + 2)) dL_law_1001 (nI_add _ _) ?_
  refine gSld (pc := 1002) hC (v := y) hX (4 * t + 2) rfl (by omega) hN hy dL_law_1002 ?_
  refine gToM ?_
  refine gV (pc := 1003) (rest := []) (ci := 2) (q0 := 0) hM (c_X2_valueAt l D (LM q f1 g σ1) μ Δ x y hμ) rfl rfl (cwV 2 hC.2.2.2.2.1 gL_law_X2_valueAt rfl rfl rfl (by decide +kernel) ⟨Nat.le_of_ble_eq_true rfl, Nat.le_of_ble_eq_true rfl⟩) rfl rfl (Nat.le_of_ble_eq_true rfl) dL_law_1003 ⟨Nat.le_trans (show k + 2 + 0 ≤ k + 8 by omega) hk, Nat.le_trans (show n + 12 + 0 ≤ n + 48 by omega) hn⟩ (fun v w1 hp => ?_)
  have hp : mPost (LM q f1 g σ1) Δ (Δ) K (fun b => b = nI (hrn (Δ.2.2 (rI x)) (nu y) (Δ.2.1 (rI x)) 0).val) v w1 := by rw [hK]; exact hp
  obtain ⟨b1, rfl, μ1, rfl, hmt, h2⟩ := hp
  refine gStk (st' := [.int b1]) (pc' := 1006) rfl rfl ?_
  have hj := wJoin h1 h2
  refine gIstore (pc := 1006) hM (lv' := [(7, .int b1), (6, .int (nI K)), (0, .ref b), (1, .ref (wx q)), (2, .ref (wm q)), (3, .ref (wo q)), (4, .ref (wd q)), (5, .int (nI (4 * t)))]) dL_law_1006 (by decide) rfl ?_
  refine gAloadN (pc := 1008) hM dL_law_1008 rfl 4 rfl ?_
  refine gV (pc := 1009) (rest := []) (ci := 2) (q0 := 0) hM (c_X2_thrown l D (LM q f1 g σ1) μ1) rfl rfl (cwV 0 hC.2.2.2.2.1 gL_law_X2_thrown rfl rfl rfl (by decide +kernel) ⟨Nat.le_of_ble_eq_true rfl, Nat.le_of_ble_eq_true rfl⟩) rfl rfl (Nat.le_of_ble_eq_true rfl) dL_law_1009 ⟨Nat.le_trans (show k + 2 + 0 ≤ k + 8 by omega) hk, Nat.le_trans (show n + 12 + 0 ≤ n + 48 by omega) hn⟩ (fun v w1 hp => ?_)
  obtain ⟨rfl, rfl⟩ := hp
  refine gStk (st' := [.int (mt μ1)]) (pc' := 1012) rfl rfl ?_
  refine gIload (pc := 1012) hM dL_law_1012 1 rfl ?_
  refine gIcmp_eq (tgt := 1019) (pc := 1014) hM dL_law_1014 (by decide) (fun _ => ?_) (fun h => absurd hmt h)
  rcases hj with ⟨hK0, ⟨hcv, hσ1⟩, hvl, hμ1⟩ | ⟨hK1, hσ1, hμ1⟩
  · skip
    refine gIload (pc := 1019) hM dL_law_1019 1 rfl ?_
    refine gIf_ne (tgt := 1036) (pc := 1021) hM dL_law_1021 (by decide) (fun h => absurd (by rw [hK0]; rfl) h) (fun _ => ?_)
    obtain ⟨v0, hv0, hcv⟩ := hcv
    have hvb : v0 = b1 := hcv.trans hvl.symm
    refine gAloadN (pc := 1024) hM dL_law_1024 rfl 5 rfl ?_
    refine gIconst (pc := 1025) hM (v := (nI 0)) dL_law_1025 (by decide +kernel) ?_
    refine gLald (pc := 1026) hM 0 rfl (by decide) (by decide) 9 3 rfl rfl rfl dL_law_1026 ?_
    refine gIload (pc := 1027) hM dL_law_1027 0 rfl ?_
    refine gI2l (pc := 1029) hM dL_law_1029 rfl ?_
    refine gLcmp (v := nI 0) (pc := 1030) hM dL_law_1030 (by rw [hv0, hvb]; exact lg_cmp_self _) ?_
    refine gIf_eq (tgt := 1036) (pc := 1031) hM dL_law_1031 (by decide) (fun _ => ?_) (fun h => absurd rfl h)
    refine gGoto (pc := 1036) hM (tgt := 2915) dL_law_1036 (by decide) ?_
    refine gToC ?_
    refine gLoc (lv' := [(0, .ref b), (1, .ref (wx q)), (2, .ref (wm q)), (3, .ref (wo q)), (4, .ref (wd q)), (5, .int (nI (4 * t)))]) [2, 3, 4, 5, 6, 7] rfl ?_
    exact gWid (show k + 2 + 0 + 0 ≤ k + 8 by omega) (show n + 12 + 0 + 0 ≤ n + 48 by omega) (kk σ1 μ1 f1 g (Δ) hσ1 hμ1)
  · skip
    refine gIload (pc := 1019) hM dL_law_1019 1 rfl ?_
    refine gIf_ne (tgt := 1036) (pc := 1021) hM dL_law_1021 (by decide) (fun _ => ?_) (fun h => absurd h (hKn hK1))
    refine gGoto (pc := 1036) hM (tgt := 2915) dL_law_1036 (by decide) ?_
    refine gToC ?_
    refine gLoc (lv' := [(0, .ref b), (1, .ref (wx q)), (2, .ref (wm q)), (3, .ref (wo q)), (4, .ref (wd q)), (5, .int (nI (4 * t)))]) [2, 3, 4, 5, 6, 7] rfl ?_
    exact gWid (show k + 2 + 0 + 0 ≤ k + 8 by omega) (show n + 12 + 0 + 0 ≤ n + 48 by omega) (kk σ1 μ1 f1 g (Δ) hσ1 hμ1)

set_option maxRecDepth 100000 in
set_option maxHeartbeats 4000000 in
theorem lk_12 {p : Program} {l : Launch} {e : Env} {s : State} {m : MethodId} {args : Array Value} {below : List Frame} {meth : Method} {c : Code} {D : va_G} {A : Nat → Prop} {Q : State → Prop} (q : wLay) {b N : Nat} {xs : Nat → Int32} (hC : gC p s m args meth c cL_law 9 RL wsL_law D (wTy q) A) (hX : va_X b N xs s s.heap ∧ b < s.heap.size ∧ ¬ A b) (hl9 : l.stackTraces = false) (hN : N ≤ 2048) {t k n : Nat} (ht : 4 * t + 4 ≤ N) (hk : k + 8 ≤ 663840) (hn : n + 48 ≤ 7104584) {σ : cSt} {μ : mSt} {f : Nat → Int64} {g : Nat → UInt64} {Δ : dSt} (hσ : cRel σ Δ) (hμ : mRel μ Δ) (x y z : Int32) (hx : xs (4 * t + 1) = x) (hy : xs (4 * t + 2) = y) (hz : xs (4 * t + 3) = z) (kk : ∀ (σ' : cSt) (μ' : mSt) (f' : Nat → Int64) (g' : Nat → UInt64) (Δ' : dSt), cRel σ' Δ' → mRel μ' Δ' → gG p l e room_1 s m args below meth c D A 9 (k + 8) (n + 48) Q (WC (LC q f' g' μ') σ') 2915 [(0, .ref b), (1, .ref (wx q)), (2, .ref (wm q)), (3, .ref (wo q)), (4, .ref (wd q)), (5, .int (nI (4 * t)))] []) : gG p l e room_1 s m args below meth c D A 9 k n Q (WC (LC q f g μ) σ) 1039 [(0, .ref b), (1, .ref (wx q)), (2, .ref (wm q)), (3, .ref (wo q)), (4, .ref (wd q)), (5, .int (nI (4 * t)))] [] := by
  have hM := gCm hC
  refine gAloadN (pc := 1039) hC dL_law_1039 rfl 1 rfl ?_
  refine gAloadN (pc := 1040) hC dL_law_1040 rfl 0 rfl ?_
  refine gIload (pc := 1041) hC dL_law_1041 5 rfl ?_
  refine gIconst (pc := 1043) hC (v := (nI 1)) dL_law_1043 (by decide +kernel) ?_
  refine gIadd (pc := 1044) hC (v := nI (4 * t + 1)) dL_law_1044 (nI_add _ _) ?_
  refine gSld (pc := 1045) hC (v := x) hX (4 * t + 1) rfl (by omega) hN hx dL_law_1045 ?_
  refine gAloadN (pc := 1046) hC dL_law_1046 rfl 3 rfl ?_
  obtain ⟨K, hK⟩ : ∃ K : Nat, K = kk1 (okR x) := ⟨_, rfl⟩
  have hKn : ¬ K = 0 → ¬ nI K = 0 := by rw [hK]; exact kk1_n
  refine gSW (pc := 1047) (rest := []) hC hl9 (c_L_support l D q σ μ f g Δ x hσ) (vx_cwSW 3 hC.2.2.2.2.1 gL_law_L_support rfl rfl rfl (by decide +kernel) ⟨Nat.le_of_ble_eq_true rfl, Nat.le_of_ble_eq_true rfl⟩) rfl rfl (Nat.le_of_ble_eq_true rfl) dL_law_1047 ⟨Nat.le_trans (Nat.add_le_add_left (by decide) _) hk, Nat.le_trans (Nat.add_le_add_left (by decide) _) hn⟩ (fun v w1 hp => ?_)
  have hp : wPost q g μ Δ (Δ) K (fun t : Int64 => ∃ v : Int32, t = v.toInt64 ∧ (fun b => b = nI (spt (ps (Δ.2.1 (rI x)) (un Δ.1 (Δ.2.1 (rI x))) 1 (Δ.2.2 (rI x))) (Δ.2.1 (rI x)))) v) v w1 := by rw [hK]; exact hp
  obtain ⟨rfl, σ1, f1, rfl, h1⟩ := hp
  refine gStk (st' := [.int (nI K)]) (pc' := 1050) rfl rfl ?_
  refine gIstore (pc := 1050) hC (lv' := [(6, .int (nI K)), (0, .ref b), (1, .ref (wx q)), (2, .ref (wm q)), (3, .ref (wo q)), (4, .ref (wd q)), (5, .int (nI (4 * t)))]) dL_law_1050 (by decide) rfl ?_
  refine gAloadN (pc := 1052) hC dL_law_1052 rfl 3 rfl ?_
  refine gAloadN (pc := 1053) hC dL_law_1053 rfl 1 rfl ?_
  refine gIload (pc := 1054) hC dL_law_1054 6 rfl ?_
  refine gIconst (pc := 1056) hC (v := (nI 1)) dL_law_1056 (by decide +kernel) ?_
  refine gIadd (pc := 1057) hC (v := nI (4 * t + 1)) dL_law_1057 (nI_add _ _) ?_
  refine gSld (pc := 1058) hC (v := x) hX (4 * t + 1) rfl (by omega) hN hx dL_law_1058 ?_
  refine gToM ?_
  refine gV (pc := 1059) (rest := []) (ci := 2) (q0 := 0) hM (c_X2_support l D (LM q f1 g σ1) μ Δ x hμ) rfl rfl (cwV 1 hC.2.2.2.2.1 gL_law_X2_support rfl rfl rfl (by decide +kernel) ⟨Nat.le_of_ble_eq_true rfl, Nat.le_of_ble_eq_true rfl⟩) rfl rfl (Nat.le_of_ble_eq_true rfl) dL_law_1059 ⟨Nat.le_trans (show k + 1 + 0 ≤ k + 8 by omega) hk, Nat.le_trans (show n + 6 + 0 ≤ n + 48 by omega) hn⟩ (fun v w1 hp => ?_)
  have hp : mPost (LM q f1 g σ1) Δ (Δ) K (fun b => b = nI (spt (ps (Δ.2.1 (rI x)) (un Δ.1 (Δ.2.1 (rI x))) 1 (Δ.2.2 (rI x))) (Δ.2.1 (rI x)))) v w1 := by rw [hK]; exact hp
  obtain ⟨b1, rfl, μ1, rfl, hmt, h2⟩ := hp
  refine gStk (st' := [.int b1]) (pc' := 1062) rfl rfl ?_
  have hj := wJoin h1 h2
  refine gIstore (pc := 1062) hM (lv' := [(7, .int b1), (6, .int (nI K)), (0, .ref b), (1, .ref (wx q)), (2, .ref (wm q)), (3, .ref (wo q)), (4, .ref (wd q)), (5, .int (nI (4 * t)))]) dL_law_1062 (by decide) rfl ?_
  refine gAloadN (pc := 1064) hM dL_law_1064 rfl 4 rfl ?_
  refine gV (pc := 1065) (rest := []) (ci := 2) (q0 := 0) hM (c_X2_thrown l D (LM q f1 g σ1) μ1) rfl rfl (cwV 0 hC.2.2.2.2.1 gL_law_X2_thrown rfl rfl rfl (by decide +kernel) ⟨Nat.le_of_ble_eq_true rfl, Nat.le_of_ble_eq_true rfl⟩) rfl rfl (Nat.le_of_ble_eq_true rfl) dL_law_1065 ⟨Nat.le_trans (show k + 1 + 0 ≤ k + 8 by omega) hk, Nat.le_trans (show n + 6 + 0 ≤ n + 48 by omega) hn⟩ (fun v w1 hp => ?_)
  obtain ⟨rfl, rfl⟩ := hp
  refine gStk (st' := [.int (mt μ1)]) (pc' := 1068) rfl rfl ?_
  refine gIload (pc := 1068) hM dL_law_1068 1 rfl ?_
  refine gIcmp_eq (tgt := 1075) (pc := 1070) hM dL_law_1070 (by decide) (fun _ => ?_) (fun h => absurd hmt h)
  rcases hj with ⟨hK0, ⟨hcv, hσ1⟩, hvl, hμ1⟩ | ⟨hK1, hσ1, hμ1⟩
  · skip
    refine gIload (pc := 1075) hM dL_law_1075 1 rfl ?_
    refine gIf_ne (tgt := 1092) (pc := 1077) hM dL_law_1077 (by decide) (fun h => absurd (by rw [hK0]; rfl) h) (fun _ => ?_)
    obtain ⟨v0, hv0, hcv⟩ := hcv
    have hvb : v0 = b1 := hcv.trans hvl.symm
    refine gAloadN (pc := 1080) hM dL_law_1080 rfl 5 rfl ?_
    refine gIconst (pc := 1081) hM (v := (nI 0)) dL_law_1081 (by decide +kernel) ?_
    refine gLald (pc := 1082) hM 0 rfl (by decide) (by decide) 9 3 rfl rfl rfl dL_law_1082 ?_
    refine gIload (pc := 1083) hM dL_law_1083 0 rfl ?_
    refine gI2l (pc := 1085) hM dL_law_1085 rfl ?_
    refine gLcmp (v := nI 0) (pc := 1086) hM dL_law_1086 (by rw [hv0, hvb]; exact lg_cmp_self _) ?_
    refine gIf_eq (tgt := 1092) (pc := 1087) hM dL_law_1087 (by decide) (fun _ => ?_) (fun h => absurd rfl h)
    refine gGoto (pc := 1092) hM (tgt := 2915) dL_law_1092 (by decide) ?_
    refine gToC ?_
    refine gLoc (lv' := [(0, .ref b), (1, .ref (wx q)), (2, .ref (wm q)), (3, .ref (wo q)), (4, .ref (wd q)), (5, .int (nI (4 * t)))]) [2, 3, 4, 5, 6, 7] rfl ?_
    exact gWid (show k + 1 + 0 + 0 ≤ k + 8 by omega) (show n + 6 + 0 + 0 ≤ n + 48 by omega) (kk σ1 μ1 f1 g (Δ) hσ1 hμ1)
  · skip
    refine gIload (pc := 1075) hM dL_law_1075 1 rfl ?_
    refine gIf_ne (tgt := 1092) (pc := 1077) hM dL_law_1077 (by decide) (fun _ => ?_) (fun h => absurd h (hKn hK1))
    refine gGoto (pc := 1092) hM (tgt := 2915) dL_law_1092 (by decide) ?_
    refine gToC ?_
    refine gLoc (lv' := [(0, .ref b), (1, .ref (wx q)), (2, .ref (wm q)), (3, .ref (wo q)), (4, .ref (wd q)), (5, .int (nI (4 * t)))]) [2, 3, 4, 5, 6, 7] rfl ?_
    exact gWid (show k + 1 + 0 + 0 ≤ k + 8 by omega) (show n + 6 + 0 + 0 ≤ n + 48 by omega) (kk σ1 μ1 f1 g (Δ) hσ1 hμ1)

set_option maxRecDepth 100000 in
set_option maxHeartbeats 4000000 in
theorem lk_13 {p : Program} {l : Launch} {e : Env} {s : State} {m : MethodId} {args : Array Value} {below : List Frame} {meth : Method} {c : Code} {D : va_G} {A : Nat → Prop} {Q : State → Prop} (q : wLay) {b N : Nat} {xs : Nat → Int32} (hC : gC p s m args meth c cL_law 9 RL wsL_law D (wTy q) A) (hX : va_X b N xs s s.heap ∧ b < s.heap.size ∧ ¬ A b) (hl9 : l.stackTraces = false) (hN : N ≤ 2048) {t k n : Nat} (ht : 4 * t + 4 ≤ N) (hk : k + 8 ≤ 663840) (hn : n + 48 ≤ 7104584) {σ : cSt} {μ : mSt} {f : Nat → Int64} {g : Nat → UInt64} {Δ : dSt} (hσ : cRel σ Δ) (hμ : mRel μ Δ) (x y z : Int32) (hx : xs (4 * t + 1) = x) (hy : xs (4 * t + 2) = y) (hz : xs (4 * t + 3) = z) (kk : ∀ (σ' : cSt) (μ' : mSt) (f' : Nat → Int64) (g' : Nat → UInt64) (Δ' : dSt), cRel σ' Δ' → mRel μ' Δ' → gG p l e room_1 s m args below meth c D A 9 (k + 8) (n + 48) Q (WC (LC q f' g' μ') σ') 2915 [(0, .ref b), (1, .ref (wx q)), (2, .ref (wm q)), (3, .ref (wo q)), (4, .ref (wd q)), (5, .int (nI (4 * t)))] []) : gG p l e room_1 s m args below meth c D A 9 k n Q (WC (LC q f g μ) σ) 1095 [(0, .ref b), (1, .ref (wx q)), (2, .ref (wm q)), (3, .ref (wo q)), (4, .ref (wd q)), (5, .int (nI (4 * t)))] [] := by
  have hM := gCm hC
  refine gAloadN (pc := 1095) hC dL_law_1095 rfl 1 rfl ?_
  refine gAloadN (pc := 1096) hC dL_law_1096 rfl 0 rfl ?_
  refine gIload (pc := 1097) hC dL_law_1097 5 rfl ?_
  refine gIconst (pc := 1099) hC (v := (nI 1)) dL_law_1099 (by decide +kernel) ?_
  refine gIadd (pc := 1100) hC (v := nI (4 * t + 1)) dL_law_1100 (nI_add _ _) ?_
  refine gSld (pc := 1101) hC (v := x) hX (4 * t + 1) rfl (by omega) hN hx dL_law_1101 ?_
  refine gAloadN (pc := 1102) hC dL_law_1102 rfl 0 rfl ?_
  refine gIload (pc := 1103) hC dL_law_1103 5 rfl ?_
  refine gIconst (pc := 1105) hC (v := (nI 2)) dL_law_1105 (by decide +kernel) ?_
  refine gIadd (pc := 1106) hC (v := nI (4 * t + 2)) dL_law_1106 (nI_add _ _) ?_
  refine gSld (pc := 1107) hC (v := y) hX (4 * t + 2) rfl (by omega) hN hy dL_law_1107 ?_
  refine gAloadN (pc := 1108) hC dL_law_1108 rfl 0 rfl ?_
  refine gIload (pc := 1109) hC dL_law_1109 5 rfl ?_
  refine gIconst (pc := 1111) hC (v := (nI 3)) dL_law_1111 (by decide +kernel) ?_
  refine gIadd (pc := 1112) hC (v := nI (4 * t + 3)) dL_law_1112 (nI_add _ _) ?_
  refine gSld (pc := 1113) hC (v := z) hX (4 * t + 3) rfl (by omega) hN hz dL_law_1113 ?_
  refine gNz hC 1114 dL_law_1114 dL_law_1117 dL_law_1118 dL_law_1121 ?_
  refine gStk (st' := [.int (bz z), .int y, .int x, .ref (wx q)]) (pc' := 1122) rfl rfl ?_
  refine gAloadN (pc := 1122) hC dL_law_1122 rfl 3 rfl ?_
  obtain ⟨K, hK⟩ : ∃ K : Nat, K = kk2 (okR x ∧ okR y) ((Δ.2.1 (rI x)) = (Δ.2.1 (rI y))) := ⟨_, rfl⟩
  have hKn : ¬ K = 0 → ¬ nI K = 0 := by rw [hK]; exact kk2_n
  refine gSW (pc := 1123) (rest := []) hC hl9 (c_L_times l D q σ μ f g Δ x y (bz z) hσ) (vx_cwSW 5 hC.2.2.2.2.1 gL_law_L_times rfl rfl rfl (by decide +kernel) ⟨Nat.le_of_ble_eq_true rfl, Nat.le_of_ble_eq_true rfl⟩) rfl rfl (Nat.le_of_ble_eq_true rfl) dL_law_1123 ⟨Nat.le_trans (Nat.add_le_add_left (by decide) _) hk, Nat.le_trans (Nat.add_le_add_left (by decide) _) hn⟩ (fun v w1 hp => ?_)
  have hp : wPost q g μ Δ (dRow Δ (rI x) (Δ.2.1 (rI x)) (rp (Δ.2.1 (rI x)) (Δ.2.2 (rI x)) (Δ.2.2 (rI y)))) K (fun t : Int64 => ∃ v : Int32, t = v.toInt64 ∧ (fun b => b = nI (cz (rp (Δ.2.1 (rI x)) (Δ.2.2 (rI x)) (Δ.2.2 (rI y))) (Δ.2.1 (rI x)))) v) v w1 := by rw [hK]; exact hp
  obtain ⟨rfl, σ1, f1, rfl, h1⟩ := hp
  refine gStk (st' := [.int (nI K)]) (pc' := 1126) rfl rfl ?_
  refine gIstore (pc := 1126) hC (lv' := [(6, .int (nI K)), (0, .ref b), (1, .ref (wx q)), (2, .ref (wm q)), (3, .ref (wo q)), (4, .ref (wd q)), (5, .int (nI (4 * t)))]) dL_law_1126 (by decide) rfl ?_
  refine gAloadN (pc := 1128) hC dL_law_1128 rfl 3 rfl ?_
  refine gAloadN (pc := 1129) hC dL_law_1129 rfl 1 rfl ?_
  refine gIload (pc := 1130) hC dL_law_1130 6 rfl ?_
  refine gIconst (pc := 1132) hC (v := (nI 1)) dL_law_1132 (by decide +kernel) ?_
  refine gIadd (pc := 1133) hC (v := nI (4 * t + 1)) dL_law_1133 (nI_add _ _) ?_
  refine gSld (pc := 1134) hC (v := x) hX (4 * t + 1) rfl (by omega) hN hx dL_law_1134 ?_
  refine gAloadN (pc := 1135) hC dL_law_1135 rfl 1 rfl ?_
  refine gIload (pc := 1136) hC dL_law_1136 6 rfl ?_
  refine gIconst (pc := 1138) hC (v := (nI 2)) dL_law_1138 (by decide +kernel) ?_
  refine gIadd (pc := 1139) hC (v := nI (4 * t + 2)) dL_law_1139 (nI_add _ _) ?_
  refine gSld (pc := 1140) hC (v := y) hX (4 * t + 2) rfl (by omega) hN hy dL_law_1140 ?_
  refine gAloadN (pc := 1141) hC dL_law_1141 rfl 1 rfl ?_
  refine gIload (pc := 1142) hC dL_law_1142 6 rfl ?_
  refine gIconst (pc := 1144) hC (v := (nI 3)) dL_law_1144 (by decide +kernel) ?_
  refine gIadd (pc := 1145) hC (v := nI (4 * t + 3)) dL_law_1145 (nI_add _ _) ?_
  refine gSld (pc := 1146) hC (v := z) hX (4 * t + 3) rfl (by omega) hN hz dL_law_1146 ?_
  refine gNz hC 1147 dL_law_1147 dL_law_1150 dL_law_1151 dL_law_1154 ?_
  refine gStk (st' := [.int (bz z), .int y, .int x, .ref (wm q)]) (pc' := 1155) rfl rfl ?_
  refine gToM ?_
  refine gV (pc := 1155) (rest := []) (ci := 2) (q0 := 0) hM (c_X2_times l D (LM q f1 g σ1) μ Δ x y (bz z) hμ) rfl rfl (cwV 3 hC.2.2.2.2.1 gL_law_X2_times rfl rfl rfl (by decide +kernel) ⟨Nat.le_of_ble_eq_true rfl, Nat.le_of_ble_eq_true rfl⟩) rfl rfl (Nat.le_of_ble_eq_true rfl) dL_law_1155 ⟨Nat.le_trans (show k + 3 + 0 ≤ k + 8 by omega) hk, Nat.le_trans (show n + 18 + 0 ≤ n + 48 by omega) hn⟩ (fun v w1 hp => ?_)
  have hp : mPost (LM q f1 g σ1) Δ (dRow Δ (rI x) (Δ.2.1 (rI x)) (rp (Δ.2.1 (rI x)) (Δ.2.2 (rI x)) (Δ.2.2 (rI y)))) K (fun b => b = nI (cz (rp (Δ.2.1 (rI x)) (Δ.2.2 (rI x)) (Δ.2.2 (rI y))) (Δ.2.1 (rI x)))) v w1 := by rw [hK]; exact hp
  obtain ⟨b1, rfl, μ1, rfl, hmt, h2⟩ := hp
  refine gStk (st' := [.int b1]) (pc' := 1158) rfl rfl ?_
  have hj := wJoin h1 h2
  refine gIstore (pc := 1158) hM (lv' := [(7, .int b1), (6, .int (nI K)), (0, .ref b), (1, .ref (wx q)), (2, .ref (wm q)), (3, .ref (wo q)), (4, .ref (wd q)), (5, .int (nI (4 * t)))]) dL_law_1158 (by decide) rfl ?_
  refine gAloadN (pc := 1160) hM dL_law_1160 rfl 4 rfl ?_
  refine gV (pc := 1161) (rest := []) (ci := 2) (q0 := 0) hM (c_X2_thrown l D (LM q f1 g σ1) μ1) rfl rfl (cwV 0 hC.2.2.2.2.1 gL_law_X2_thrown rfl rfl rfl (by decide +kernel) ⟨Nat.le_of_ble_eq_true rfl, Nat.le_of_ble_eq_true rfl⟩) rfl rfl (Nat.le_of_ble_eq_true rfl) dL_law_1161 ⟨Nat.le_trans (show k + 3 + 0 ≤ k + 8 by omega) hk, Nat.le_trans (show n + 18 + 0 ≤ n + 48 by omega) hn⟩ (fun v w1 hp => ?_)
  obtain ⟨rfl, rfl⟩ := hp
  refine gStk (st' := [.int (mt μ1)]) (pc' := 1164) rfl rfl ?_
  refine gIload (pc := 1164) hM dL_law_1164 1 rfl ?_
  refine gIcmp_eq (tgt := 1171) (pc := 1166) hM dL_law_1166 (by decide) (fun _ => ?_) (fun h => absurd hmt h)
  rcases hj with ⟨hK0, ⟨hcv, hσ1⟩, hvl, hμ1⟩ | ⟨hK1, hσ1, hμ1⟩
  · skip
    refine gIload (pc := 1171) hM dL_law_1171 1 rfl ?_
    refine gIf_ne (tgt := 1188) (pc := 1173) hM dL_law_1173 (by decide) (fun h => absurd (by rw [hK0]; rfl) h) (fun _ => ?_)
    obtain ⟨v0, hv0, hcv⟩ := hcv
    have hvb : v0 = b1 := hcv.trans hvl.symm
    refine gAloadN (pc := 1176) hM dL_law_1176 rfl 5 rfl ?_
    refine gIconst (pc := 1177) hM (v := (nI 0)) dL_law_1177 (by decide +kernel) ?_
    refine gLald (pc := 1178) hM 0 rfl (by decide) (by decide) 9 3 rfl rfl rfl dL_law_1178 ?_
    refine gIload (pc := 1179) hM dL_law_1179 0 rfl ?_
    refine gI2l (pc := 1181) hM dL_law_1181 rfl ?_
    refine gLcmp (v := nI 0) (pc := 1182) hM dL_law_1182 (by rw [hv0, hvb]; exact lg_cmp_self _) ?_
    refine gIf_eq (tgt := 1188) (pc := 1183) hM dL_law_1183 (by decide) (fun _ => ?_) (fun h => absurd rfl h)
    refine gGoto (pc := 1188) hM (tgt := 2915) dL_law_1188 (by decide) ?_
    refine gToC ?_
    refine gLoc (lv' := [(0, .ref b), (1, .ref (wx q)), (2, .ref (wm q)), (3, .ref (wo q)), (4, .ref (wd q)), (5, .int (nI (4 * t)))]) [2, 3, 4, 5, 6, 7] rfl ?_
    exact gWid (show k + 3 + 0 + 0 ≤ k + 8 by omega) (show n + 18 + 0 + 0 ≤ n + 48 by omega) (kk σ1 μ1 f1 g (dRow Δ (rI x) (Δ.2.1 (rI x)) (rp (Δ.2.1 (rI x)) (Δ.2.2 (rI x)) (Δ.2.2 (rI y)))) hσ1 hμ1)
  · skip
    refine gIload (pc := 1171) hM dL_law_1171 1 rfl ?_
    refine gIf_ne (tgt := 1188) (pc := 1173) hM dL_law_1173 (by decide) (fun _ => ?_) (fun h => absurd h (hKn hK1))
    refine gGoto (pc := 1188) hM (tgt := 2915) dL_law_1188 (by decide) ?_
    refine gToC ?_
    refine gLoc (lv' := [(0, .ref b), (1, .ref (wx q)), (2, .ref (wm q)), (3, .ref (wo q)), (4, .ref (wd q)), (5, .int (nI (4 * t)))]) [2, 3, 4, 5, 6, 7] rfl ?_
    exact gWid (show k + 3 + 0 + 0 ≤ k + 8 by omega) (show n + 18 + 0 + 0 ≤ n + 48 by omega) (kk σ1 μ1 f1 g (Δ) hσ1 hμ1)
