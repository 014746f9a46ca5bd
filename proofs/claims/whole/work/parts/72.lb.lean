set_option maxRecDepth 100000 in
set_option maxHeartbeats 4000000 in
theorem lk_14 {p : Program} {l : Launch} {e : Env} {s : State} {m : MethodId} {args : Array Value} {below : List Frame} {meth : Method} {c : Code} {D : va_G} {A : Nat → Prop} {Q : State → Prop} (q : wLay) {b N : Nat} {xs : Nat → Int32} (hC : gC p s m args meth c cL_law 9 RL wsL_law D (wTy q) A) (hX : va_X b N xs s s.heap ∧ b < s.heap.size ∧ ¬ A b) (hl9 : l.stackTraces = false) (hN : N ≤ 2048) {t k n : Nat} (ht : 4 * t + 4 ≤ N) (hk : k + 8 ≤ 663840) (hn : n + 48 ≤ 7104584) {σ : cSt} {μ : mSt} {f : Nat → Int64} {g : Nat → UInt64} {Δ : dSt} (hσ : cRel σ Δ) (hμ : mRel μ Δ) (x y z : Int32) (hx : xs (4 * t + 1) = x) (hy : xs (4 * t + 2) = y) (hz : xs (4 * t + 3) = z) (kk : ∀ (σ' : cSt) (μ' : mSt) (f' : Nat → Int64) (g' : Nat → UInt64) (Δ' : dSt), cRel σ' Δ' → mRel μ' Δ' → gG p l e room_1 s m args below meth c D A 9 (k + 8) (n + 48) Q (WC (LC q f' g' μ') σ') 2915 [(0, .ref b), (1, .ref (wx q)), (2, .ref (wm q)), (3, .ref (wo q)), (4, .ref (wd q)), (5, .int (nI (4 * t)))] []) : gG p l e room_1 s m args below meth c D A 9 k n Q (WC (LC q f g μ) σ) 1191 [(0, .ref b), (1, .ref (wx q)), (2, .ref (wm q)), (3, .ref (wo q)), (4, .ref (wd q)), (5, .int (nI (4 * t)))] [] := by
  have hM := gCm hC
  refine gAloadN (pc := 1191) hC dL_law_1191 rfl 1 rfl ?_
  refine gAloadN (pc := 1192) hC dL_law_1192 rfl 0 rfl ?_
  refine gIload (pc := 1193) hC dL_law_1193 5 rfl ?_
  refine gIconst (pc := 1195) hC (v := (nI 1)) dL_law_1195 (by decide +kernel) ?_
  refine gIadd (pc := 1196) hC (v := nI (4 * t + 1)) dL_law_1196 (nI_add _ _) ?_
  refine gSld (pc := 1197) hC (v := x) hX (4 * t + 1) rfl (by omega) hN hx dL_law_1197 ?_
  refine gAloadN (pc := 1198) hC dL_law_1198 rfl 0 rfl ?_
  refine gIload (pc := 1199) hC dL_law_1199 5 rfl ?_
  refine gIconst (pc := 1201) hC (v := (nI 2)) dL_law_1201 (by decide +kernel) ?_
  refine gIadd (pc := 1202) hC (v := nI (4 * t + 2)) dL_law_1202 (nI_add _ _) ?_
  refine gSld (pc := 1203) hC (v := y) hX (4 * t + 2) rfl (by omega) hN hy dL_law_1203 ?_
  refine gAloadN (pc := 1204) hC dL_law_1204 rfl 3 rfl ?_
  obtain ⟨K, hK⟩ : ∃ K : Nat, K = kk2 (okR x ∧ okR y) ((Δ.2.1 (rI x)) = (Δ.2.1 (rI y)) ∧ (Δ.2.1 (rI x)) < 16) := ⟨_, rfl⟩
  have hKn : ¬ K = 0 → ¬ nI K = 0 := by rw [hK]; exact kk2_n
  refine gSW (pc := 1205) (rest := []) hC hl9 (c_L_plainTimes l D q σ μ f g Δ x y hσ) (vx_cwSW 4 hC.2.2.2.2.1 gL_law_L_plainTimes rfl rfl rfl (by decide +kernel) ⟨Nat.le_of_ble_eq_true rfl, Nat.le_of_ble_eq_true rfl⟩) rfl rfl (Nat.le_of_ble_eq_true rfl) dL_law_1205 ⟨Nat.le_trans (Nat.add_le_add_left (by decide) _) hk, Nat.le_trans (Nat.add_le_add_left (by decide) _) hn⟩ (fun v w1 hp => ?_)
  have hp : wPost q g μ Δ (dRow Δ (rI x) (2 * (Δ.2.1 (rI x))) (pp (Δ.2.1 (rI x)) (Δ.2.2 (rI x)) (Δ.2.2 (rI y)))) K (fun t : Int64 => ∃ v : Int32, t = v.toInt64 ∧ (fun b => b = nI (cz (pp (Δ.2.1 (rI x)) (Δ.2.2 (rI x)) (Δ.2.2 (rI y))) (2 * (Δ.2.1 (rI x))))) v) v w1 := by rw [hK]; exact hp
  obtain ⟨rfl, σ1, f1, rfl, h1⟩ := hp
  refine gStk (st' := [.int (nI K)]) (pc' := 1208) rfl rfl ?_
  refine gIstore (pc := 1208) hC (lv' := [(6, .int (nI K)), (0, .ref b), (1, .ref (wx q)), (2, .ref (wm q)), (3, .ref (wo q)), (4, .ref (wd q)), (5, .int (nI (4 * t)))]) dL_law_1208 (by decide) rfl ?_
  refine gAloadN (pc := 1210) hC dL_law_1210 rfl 3 rfl ?_
  refine gAloadN (pc := 1211) hC dL_law_1211 rfl 1 rfl ?_
  refine gIload (pc := 1212) hC dL_law_1212 6 rfl ?_
  refine gIconst (pc := 1214) hC (v := (nI 1)) dL_law_1214 (by decide +kernel) ?_
  refine gIadd (pc := 1215) hC (v := nI (4 * t + 1)) dL_law_1215 (nI_add _ _) ?_
  refine gSld (pc := 1216) hC (v := x) hX (4 * t + 1) rfl (by omega) hN hx dL_law_1216 ?_
  refine gAloadN (pc := 1217) hC dL_law_1217 rfl 1 rfl ?_
  refine gIload (pc := 1218) hC dL_law_1218 6 rfl ?_
  refine gIconst (pc := 1220) hC (v := (nI 2)) dL_law_1220 (by decide +kernel) ?_
  refine gIadd (pc := 1221) hC (v := nI (4 * t + 2)) dL_law_1221 (nI_add _ _) ?_
  refine gSld (pc := 1222) hC (v := y) hX (4 * t + 2) rfl (by omega) hN hy dL_law_1222 ?_
  refine gToM ?_
  refine gV (pc := 1223) (rest := []) (ci := 2) (q0 := 0) hM (c_X2_plainTimes l D (LM q f1 g σ1) μ Δ x y hμ) rfl rfl (cwV 2 hC.2.2.2.2.1 gL_law_X2_plainTimes rfl rfl rfl (by decide +kernel) ⟨Nat.le_of_ble_eq_true rfl, Nat.le_of_ble_eq_true rfl⟩) rfl rfl (Nat.le_of_ble_eq_true rfl) dL_law_1223 ⟨Nat.le_trans (show k + 4 + 0 ≤ k + 8 by omega) hk, Nat.le_trans (show n + 24 + 0 ≤ n + 48 by omega) hn⟩ (fun v w1 hp => ?_)
  have hp : mPost (LM q f1 g σ1) Δ (dRow Δ (rI x) (2 * (Δ.2.1 (rI x))) (pp (Δ.2.1 (rI x)) (Δ.2.2 (rI x)) (Δ.2.2 (rI y)))) K (fun b => b = nI (cz (pp (Δ.2.1 (rI x)) (Δ.2.2 (rI x)) (Δ.2.2 (rI y))) (2 * (Δ.2.1 (rI x))))) v w1 := by rw [hK]; exact hp
  obtain ⟨b1, rfl, μ1, rfl, hmt, h2⟩ := hp
  refine gStk (st' := [.int b1]) (pc' := 1226) rfl rfl ?_
  have hj := wJoin h1 h2
  refine gIstore (pc := 1226) hM (lv' := [(7, .int b1), (6, .int (nI K)), (0, .ref b), (1, .ref (wx q)), (2, .ref (wm q)), (3, .ref (wo q)), (4, .ref (wd q)), (5, .int (nI (4 * t)))]) dL_law_1226 (by decide) rfl ?_
  refine gAloadN (pc := 1228) hM dL_law_1228 rfl 4 rfl ?_
  refine gV (pc := 1229) (rest := []) (ci := 2) (q0 := 0) hM (c_X2_thrown l D (LM q f1 g σ1) μ1) rfl rfl (cwV 0 hC.2.2.2.2.1 gL_law_X2_thrown rfl rfl rfl (by decide +kernel) ⟨Nat.le_of_ble_eq_true rfl, Nat.le_of_ble_eq_true rfl⟩) rfl rfl (Nat.le_of_ble_eq_true rfl) dL_law_1229 ⟨Nat.le_trans (show k + 4 + 0 ≤ k + 8 by omega) hk, Nat.le_trans (show n + 24 + 0 ≤ n + 48 by omega) hn⟩ (fun v w1 hp => ?_)
  obtain ⟨rfl, rfl⟩ := hp
  refine gStk (st' := [.int (mt μ1)]) (pc' := 1232) rfl rfl ?_
  refine gIload (pc := 1232) hM dL_law_1232 1 rfl ?_
  refine gIcmp_eq (tgt := 1239) (pc := 1234) hM dL_law_1234 (by decide) (fun _ => ?_) (fun h => absurd hmt h)
  rcases hj with ⟨hK0, ⟨hcv, hσ1⟩, hvl, hμ1⟩ | ⟨hK1, hσ1, hμ1⟩
  · skip
    refine gIload (pc := 1239) hM dL_law_1239 1 rfl ?_
    refine gIf_ne (tgt := 1256) (pc := 1241) hM dL_law_1241 (by decide) (fun h => absurd (by rw [hK0]; rfl) h) (fun _ => ?_)
    obtain ⟨v0, hv0, hcv⟩ := hcv
    have hvb : v0 = b1 := hcv.trans hvl.symm
    refine gAloadN (pc := 1244) hM dL_law_1244 rfl 5 rfl ?_
    refine gIconst (pc := 1245) hM (v := (nI 0)) dL_law_1245 (by decide +kernel) ?_
    refine gLald (pc := 1246) hM 0 rfl (by decide) (by decide) 9 3 rfl rfl rfl dL_law_1246 ?_
    refine gIload (pc := 1247) hM dL_law_1247 0 rfl ?_
    refine gI2l (pc := 1249) hM dL_law_1249 rfl ?_
    refine gLcmp (v := nI 0) (pc := 1250) hM dL_law_1250 (by rw [hv0, hvb]; exact lg_cmp_self _) ?_
    refine gIf_eq (tgt := 1256) (pc := 1251) hM dL_law_1251 (by decide) (fun _ => ?_) (fun h => absurd rfl h)
    refine gGoto (pc := 1256) hM (tgt := 2915) dL_law_1256 (by decide) ?_
    refine gToC ?_
    refine gLoc (lv' := [(0, .ref b), (1, .ref (wx q)), (2, .ref (wm q)), (3, .ref (wo q)), (4, .ref (wd q)), (5, .int (nI (4 * t)))]) [2, 3, 4, 5, 6, 7] rfl ?_
    exact gWid (show k + 4 + 0 + 0 ≤ k + 8 by omega) (show n + 24 + 0 + 0 ≤ n + 48 by omega) (kk σ1 μ1 f1 g (dRow Δ (rI x) (2 * (Δ.2.1 (rI x))) (pp (Δ.2.1 (rI x)) (Δ.2.2 (rI x)) (Δ.2.2 (rI y)))) hσ1 hμ1)
  · skip
    refine gIload (pc := 1239) hM dL_law_1239 1 rfl ?_
    refine gIf_ne (tgt := 1256) (pc := 1241) hM dL_law_1241 (by decide) (fun _ => ?_) (fun h => absurd h (hKn hK1))
    refine gGoto (pc := 1256) hM (tgt := 2915) dL_law_1256 (by decide) ?_
    refine gToC ?_
    refine gLoc (lv' := [(0, .ref b), (1, .ref (wx q)), (2, .ref (wm q)), (3, .ref (wo q)), (4, .ref (wd q)), (5, .int (nI (4 * t)))]) [2, 3, 4, 5, 6, 7] rfl ?_
    exact gWid (show k + 4 + 0 + 0 ≤ k + 8 by omega) (show n + 24 + 0 + 0 ≤ n + 48 by omega) (kk σ1 μ1 f1 g (Δ) hσ1 hμ1)

set_option maxRecDepth 100000 in
set_option maxHeartbeats 4000000 in
theorem lk_15 {p : Program} {l : Launch} {e : Env} {s : State} {m : MethodId} {args : Array Value} {below : List Frame} {meth : Method} {c : Code} {D : va_G} {A : Nat → Prop} {Q : State → Prop} (q : wLay) {b N : Nat} {xs : Nat → Int32} (hC : gC p s m args meth c cL_law 9 RL wsL_law D (wTy q) A) (hX : va_X b N xs s s.heap ∧ b < s.heap.size ∧ ¬ A b) (hl9 : l.stackTraces = false) (hN : N ≤ 2048) {t k n : Nat} (ht : 4 * t + 4 ≤ N) (hk : k + 8 ≤ 663840) (hn : n + 48 ≤ 7104584) {σ : cSt} {μ : mSt} {f : Nat → Int64} {g : Nat → UInt64} {Δ : dSt} (hσ : cRel σ Δ) (hμ : mRel μ Δ) (x y z : Int32) (hx : xs (4 * t + 1) = x) (hy : xs (4 * t + 2) = y) (hz : xs (4 * t + 3) = z) (kk : ∀ (σ' : cSt) (μ' : mSt) (f' : Nat → Int64) (g' : Nat → UInt64) (Δ' : dSt), cRel σ' Δ' → mRel μ' Δ' → gG p l e room_1 s m args below meth c D A 9 (k + 8) (n + 48) Q (WC (LC q f' g' μ') σ') 2915 [(0, .ref b), (1, .ref (wx q)), (2, .ref (wm q)), (3, .ref (wo q)), (4, .ref (wd q)), (5, .int (nI (4 * t)))] []) : gG p l e room_1 s m args below meth c D A 9 k n Q (WC (LC q f g μ) σ) 1259 [(0, .ref b), (1, .ref (wx q)), (2, .ref (wm q)), (3, .ref (wo q)), (4, .ref (wd q)), (5, .int (nI (4 * t)))] [] := by
  have hM := gCm hC
  refine gAloadN (pc := 1259) hC dL_law_1259 rfl 1 rfl ?_
  refine gAloadN (pc := 1260) hC dL_law_1260 rfl 0 rfl ?_
  refine gIload (pc := 1261) hC dL_law_1261 5 rfl ?_
  refine gIconst (pc := 1263) hC (v := (nI 1)) dL_law_1263 (by decide +kernel) ?_
  refine gIadd (pc := 1264) hC (v := nI (4 * t + 1)) dL_law_1264 (nI_add _ _) ?_
  refine gSld (pc := 1265) hC (v := x) hX (4 * t + 1) rfl (by omega) hN hx dL_law_1265 ?_
  refine gAloadN (pc := 1266) hC dL_law_1266 rfl 3 rfl ?_
  obtain ⟨K, hK⟩ : ∃ K : Nat, K = kk2 (okR x) (cz (ps (Δ.2.1 (rI x)) (un Δ.1 (Δ.2.1 (rI x))) 1 (Δ.2.2 (rI x))) (Δ.2.1 (rI x)) = 0) := ⟨_, rfl⟩
  have hKn : ¬ K = 0 → ¬ nI K = 0 := by rw [hK]; exact kk2_n
  refine gSW (pc := 1267) (rest := []) hC hl9 (c_L_invert l D q σ μ f g Δ x hσ) (vx_cwSW 3 hC.2.2.2.2.1 gL_law_L_invert rfl rfl rfl (by decide +kernel) ⟨Nat.le_of_ble_eq_true rfl, Nat.le_of_ble_eq_true rfl⟩) rfl rfl (Nat.le_of_ble_eq_true rfl) dL_law_1267 ⟨Nat.le_trans (Nat.add_le_add_left (by decide) _) hk, Nat.le_trans (Nat.add_le_add_left (by decide) _) hn⟩ (fun v w1 hp => ?_)
  have hp : wPost q g μ Δ (dRow Δ (rI x) (Δ.2.1 (rI x)) (bk (Δ.2.1 (rI x)) (un Δ.1 (Δ.2.1 (rI x))) (fun i => iv ((ps (Δ.2.1 (rI x)) (un Δ.1 (Δ.2.1 (rI x))) 1 (Δ.2.2 (rI x))) i)))) K (fun t : Int64 => ∃ v : Int32, t = v.toInt64 ∧ (fun b => b = nI ((bk (Δ.2.1 (rI x)) (un Δ.1 (Δ.2.1 (rI x))) (fun i => iv ((ps (Δ.2.1 (rI x)) (un Δ.1 (Δ.2.1 (rI x))) 1 (Δ.2.2 (rI x))) i))) 0).val) v) v w1 := by rw [hK]; exact hp
  obtain ⟨rfl, σ1, f1, rfl, h1⟩ := hp
  refine gStk (st' := [.int (nI K)]) (pc' := 1270) rfl rfl ?_
  refine gIstore (pc := 1270) hC (lv' := [(6, .int (nI K)), (0, .ref b), (1, .ref (wx q)), (2, .ref (wm q)), (3, .ref (wo q)), (4, .ref (wd q)), (5, .int (nI (4 * t)))]) dL_law_1270 (by decide) rfl ?_
  refine gAloadN (pc := 1272) hC dL_law_1272 rfl 3 rfl ?_
  refine gAloadN (pc := 1273) hC dL_law_1273 rfl 1 rfl ?_
  refine gIload (pc := 1274) hC dL_law_1274 6 rfl ?_
  refine gIconst (pc := 1276) hC (v := (nI 1)) dL_law_1276 (by decide +kernel) ?_
  refine gIadd (pc := 1277) hC (v := nI (4 * t + 1)) dL_law_1277 (nI_add _ _) ?_
  refine gSld (pc := 1278) hC (v := x) hX (4 * t + 1) rfl (by omega) hN hx dL_law_1278 ?_
  refine gToM ?_
  refine gV (pc := 1279) (rest := []) (ci := 2) (q0 := 0) hM (c_X2_invert l D (LM q f1 g σ1) μ Δ x hμ) rfl rfl (cwV 1 hC.2.2.2.2.1 gL_law_X2_invert rfl rfl rfl (by decide +kernel) ⟨Nat.le_of_ble_eq_true rfl, Nat.le_of_ble_eq_true rfl⟩) rfl rfl (Nat.le_of_ble_eq_true rfl) dL_law_1279 ⟨Nat.le_trans (show k + 2 + 0 ≤ k + 8 by omega) hk, Nat.le_trans (show n + 12 + 0 ≤ n + 48 by omega) hn⟩ (fun v w1 hp => ?_)
  have hp : mPost (LM q f1 g σ1) Δ (dRow Δ (rI x) (Δ.2.1 (rI x)) (bk (Δ.2.1 (rI x)) (un Δ.1 (Δ.2.1 (rI x))) (fun i => iv ((ps (Δ.2.1 (rI x)) (un Δ.1 (Δ.2.1 (rI x))) 1 (Δ.2.2 (rI x))) i)))) K (fun b => b = nI ((bk (Δ.2.1 (rI x)) (un Δ.1 (Δ.2.1 (rI x))) (fun i => iv ((ps (Δ.2.1 (rI x)) (un Δ.1 (Δ.2.1 (rI x))) 1 (Δ.2.2 (rI x))) i))) 0).val) v w1 := by rw [hK]; exact hp
  obtain ⟨b1, rfl, μ1, rfl, hmt, h2⟩ := hp
  refine gStk (st' := [.int b1]) (pc' := 1282) rfl rfl ?_
  have hj := wJoin h1 h2
  refine gIstore (pc := 1282) hM (lv' := [(7, .int b1), (6, .int (nI K)), (0, .ref b), (1, .ref (wx q)), (2, .ref (wm q)), (3, .ref (wo q)), (4, .ref (wd q)), (5, .int (nI (4 * t)))]) dL_law_1282 (by decide) rfl ?_
  refine gAloadN (pc := 1284) hM dL_law_1284 rfl 4 rfl ?_
  refine gV (pc := 1285) (rest := []) (ci := 2) (q0 := 0) hM (c_X2_thrown l D (LM q f1 g σ1) μ1) rfl rfl (cwV 0 hC.2.2.2.2.1 gL_law_X2_thrown rfl rfl rfl (by decide +kernel) ⟨Nat.le_of_ble_eq_true rfl, Nat.le_of_ble_eq_true rfl⟩) rfl rfl (Nat.le_of_ble_eq_true rfl) dL_law_1285 ⟨Nat.le_trans (show k + 2 + 0 ≤ k + 8 by omega) hk, Nat.le_trans (show n + 12 + 0 ≤ n + 48 by omega) hn⟩ (fun v w1 hp => ?_)
  obtain ⟨rfl, rfl⟩ := hp
  refine gStk (st' := [.int (mt μ1)]) (pc' := 1288) rfl rfl ?_
  refine gIload (pc := 1288) hM dL_law_1288 1 rfl ?_
  refine gIcmp_eq (tgt := 1295) (pc := 1290) hM dL_law_1290 (by decide) (fun _ => ?_) (fun h => absurd hmt h)
  rcases hj with ⟨hK0, ⟨hcv, hσ1⟩, hvl, hμ1⟩ | ⟨hK1, hσ1, hμ1⟩
  · skip
    refine gIload (pc := 1295) hM dL_law_1295 1 rfl ?_
    refine gIf_ne (tgt := 1312) (pc := 1297) hM dL_law_1297 (by decide) (fun h => absurd (by rw [hK0]; rfl) h) (fun _ => ?_)
    obtain ⟨v0, hv0, hcv⟩ := hcv
    have hvb : v0 = b1 := hcv.trans hvl.symm
    refine gAloadN (pc := 1300) hM dL_law_1300 rfl 5 rfl ?_
    refine gIconst (pc := 1301) hM (v := (nI 0)) dL_law_1301 (by decide +kernel) ?_
    refine gLald (pc := 1302) hM 0 rfl (by decide) (by decide) 9 3 rfl rfl rfl dL_law_1302 ?_
    refine gIload (pc := 1303) hM dL_law_1303 0 rfl ?_
    refine gI2l (pc := 1305) hM dL_law_1305 rfl ?_
    refine gLcmp (v := nI 0) (pc := 1306) hM dL_law_1306 (by rw [hv0, hvb]; exact lg_cmp_self _) ?_
    refine gIf_eq (tgt := 1312) (pc := 1307) hM dL_law_1307 (by decide) (fun _ => ?_) (fun h => absurd rfl h)
    refine gGoto (pc := 1312) hM (tgt := 2915) dL_law_1312 (by decide) ?_
    refine gToC ?_
    refine gLoc (lv' := [(0, .ref b), (1, .ref (wx q)), (2, .ref (wm q)), (3, .ref (wo q)), (4, .ref (wd q)), (5, .int (nI (4 * t)))]) [2, 3, 4, 5, 6, 7] rfl ?_
    exact gWid (show k + 2 + 0 + 0 ≤ k + 8 by omega) (show n + 12 + 0 + 0 ≤ n + 48 by omega) (kk σ1 μ1 f1 g (dRow Δ (rI x) (Δ.2.1 (rI x)) (bk (Δ.2.1 (rI x)) (un Δ.1 (Δ.2.1 (rI x))) (fun i => iv ((ps (Δ.2.1 (rI x)) (un Δ.1 (Δ.2.1 (rI x))) 1 (Δ.2.2 (rI x))) i)))) hσ1 hμ1)
  · skip
    refine gIload (pc := 1295) hM dL_law_1295 1 rfl ?_
    refine gIf_ne (tgt := 1312) (pc := 1297) hM dL_law_1297 (by decide) (fun _ => ?_) (fun h => absurd h (hKn hK1))
    refine gGoto (pc := 1312) hM (tgt := 2915) dL_law_1312 (by decide) ?_
    refine gToC ?_
    refine gLoc (lv' := [(0, .ref b), (1, .ref (wx q)), (2, .ref (wm q)), (3, .ref (wo q)), (4, .ref (wd q)), (5, .int (nI (4 * t)))]) [2, 3, 4, 5, 6, 7] rfl ?_
    exact gWid (show k + 2 + 0 + 0 ≤ k + 8 by omega) (show n + 12 + 0 + 0 ≤ n + 48 by omega) (kk σ1 μ1 f1 g (Δ) hσ1 hμ1)

set_option maxRecDepth 100000 in
set_option maxHeartbeats 4000000 in
theorem lk_16 {p : Program} {l : Launch} {e : Env} {s : State} {m : MethodId} {args : Array Value} {below : List Frame} {meth : Method} {c : Code} {D : va_G} {A : Nat → Prop} {Q : State → Prop} (q : wLay) {b N : Nat} {xs : Nat → Int32} (hC : gC p s m args meth c cL_law 9 RL wsL_law D (wTy q) A) (hX : va_X b N xs s s.heap ∧ b < s.heap.size ∧ ¬ A b) (hl9 : l.stackTraces = false) (hN : N ≤ 2048) {t k n : Nat} (ht : 4 * t + 4 ≤ N) (hk : k + 8 ≤ 663840) (hn : n + 48 ≤ 7104584) {σ : cSt} {μ : mSt} {f : Nat → Int64} {g : Nat → UInt64} {Δ : dSt} (hσ : cRel σ Δ) (hμ : mRel μ Δ) (x y z : Int32) (hx : xs (4 * t + 1) = x) (hy : xs (4 * t + 2) = y) (hz : xs (4 * t + 3) = z) (kk : ∀ (σ' : cSt) (μ' : mSt) (f' : Nat → Int64) (g' : Nat → UInt64) (Δ' : dSt), cRel σ' Δ' → mRel μ' Δ' → gG p l e room_1 s m args below meth c D A 9 (k + 8) (n + 48) Q (WC (LC q f' g' μ') σ') 2915 [(0, .ref b), (1, .ref (wx q)), (2, .ref (wm q)), (3, .ref (wo q)), (4, .ref (wd q)), (5, .int (nI (4 * t)))] []) : gG p l e room_1 s m args below meth c D A 9 k n Q (WC (LC q f g μ) σ) 1315 [(0, .ref b), (1, .ref (wx q)), (2, .ref (wm q)), (3, .ref (wo q)), (4, .ref (wd q)), (5, .int (nI (4 * t)))] [] := by
  have hM := gCm hC
  refine gAloadN (pc := 1315) hC dL_law_1315 rfl 1 rfl ?_
  refine gAloadN (pc := 1316) hC dL_law_1316 rfl 0 rfl ?_
  refine gIload (pc := 1317) hC dL_law_1317 5 rfl ?_
  refine gIconst (pc := 1319) hC (v := (nI 1)) dL_law_1319 (by decide +kernel) ?_
  refine gIadd (pc := 1320) hC (v := nI (4 * t + 1)) dL_law_1320 (nI_add _ _) ?_
  refine gSld (pc := 1321) hC (v := x) hX (4 * t + 1) rfl (by omega) hN hx dL_law_1321 ?_
  refine gAloadN (pc := 1322) hC dL_law_1322 rfl 0 rfl ?_
  refine gIload (pc := 1323) hC dL_law_1323 5 rfl ?_
  refine gIconst (pc := 1325) hC (v := (nI 2)) dL_law_1325 (by decide +kernel) ?_
  refine gIadd (pc := 1326) hC (v := nI (4 * t + 2)) dL_law_1326 (nI_add _ _) ?_
  refine gSld (pc := 1327) hC (v := y) hX (4 * t + 2) rfl (by omega) hN hy dL_law_1327 ?_
  refine gV (pc := 1328) (rest := []) (ci := 1) (q0 := 0) hC (c_X1_product l D (LC q f g μ) σ Δ x y hσ) rfl rfl (cwV 2 hC.2.2.2.2.1 gL_law_X1_product rfl rfl rfl (by decide +kernel) ⟨Nat.le_of_ble_eq_true rfl, Nat.le_of_ble_eq_true rfl⟩) rfl rfl (Nat.le_of_ble_eq_true rfl) dL_law_1328 ⟨Nat.le_trans (Nat.add_le_add_left (by decide) _) hk, Nat.le_trans (Nat.add_le_add_left (by decide) _) hn⟩ (fun v w1 hp => ?_)
  obtain ⟨rfl, σ1, rfl, hσ1⟩ := hp
  refine gStk (st' := [.long (lN (x.toBitVec.toNat * y.toBitVec.toNat))]) (pc' := 1331) rfl rfl ?_
  refine gAloadN (pc := 1331) hC dL_law_1331 rfl 2 rfl ?_
  refine gAloadN (pc := 1332) hC dL_law_1332 rfl 0 rfl ?_
  refine gIload (pc := 1333) hC dL_law_1333 5 rfl ?_
  refine gIconst (pc := 1335) hC (v := (nI 1)) dL_law_1335 (by decide +kernel) ?_
  refine gIadd (pc := 1336) hC (v := nI (4 * t + 1)) dL_law_1336 (nI_add _ _) ?_
  refine gSld (pc := 1337) hC (v := x) hX (4 * t + 1) rfl (by omega) hN hx dL_law_1337 ?_
  refine gAloadN (pc := 1338) hC dL_law_1338 rfl 0 rfl ?_
  refine gIload (pc := 1339) hC dL_law_1339 5 rfl ?_
  refine gIconst (pc := 1341) hC (v := (nI 2)) dL_law_1341 (by decide +kernel) ?_
  refine gIadd (pc := 1342) hC (v := nI (4 * t + 2)) dL_law_1342 (nI_add _ _) ?_
  refine gSld (pc := 1343) hC (v := y) hX (4 * t + 2) rfl (by omega) hN hy dL_law_1343 ?_
  refine gToM ?_
  refine gV (pc := 1344) (rest := [.long (lN (x.toBitVec.toNat * y.toBitVec.toNat))]) (ci := 2) (q0 := 0) hM (c_X2_product_ l D (LM q f g σ1) μ Δ x y hμ) rfl rfl (cwV 2 hC.2.2.2.2.1 gL_law_X2_product_ rfl rfl rfl (by decide +kernel) ⟨Nat.le_of_ble_eq_true rfl, Nat.le_of_ble_eq_true rfl⟩) rfl rfl (Nat.le_of_ble_eq_true rfl) dL_law_1344 ⟨Nat.le_trans (Nat.add_le_add_left (by decide) _) hk, Nat.le_trans (Nat.add_le_add_left (by decide) _) hn⟩ (fun v w1 hp => ?_)
  obtain ⟨b1, rfl, μ1, rfl, hμ1, hb1⟩ := hp
  refine gStk (st' := [.long b1, .long (lN (x.toBitVec.toNat * y.toBitVec.toNat))]) (pc' := 1347) rfl rfl ?_
  refine gLcmp (v := nI 0) (pc := 1347) hM dL_law_1347 (by rw [hb1]; exact lg_cmp_self _) ?_
  refine gIf_eq (tgt := 2915) (pc := 1348) hM dL_law_1348 (by decide) (fun _ => ?_) (fun h => absurd rfl h)
  refine gToC ?_
  exact gWid (show k + 0 + 0 ≤ k + 8 by omega) (show n + 0 + 0 ≤ n + 48 by omega) (kk σ1 μ1 f g Δ hσ1 hμ1)

set_option maxRecDepth 100000 in
set_option maxHeartbeats 4000000 in
theorem lk_17 {p : Program} {l : Launch} {e : Env} {s : State} {m : MethodId} {args : Array Value} {below : List Frame} {meth : Method} {c : Code} {D : va_G} {A : Nat → Prop} {Q : State → Prop} (q : wLay) {b N : Nat} {xs : Nat → Int32} (hC : gC p s m args meth c cL_law 9 RL wsL_law D (wTy q) A) (hX : va_X b N xs s s.heap ∧ b < s.heap.size ∧ ¬ A b) (hl9 : l.stackTraces = false) (hN : N ≤ 2048) {t k n : Nat} (ht : 4 * t + 4 ≤ N) (hk : k + 8 ≤ 663840) (hn : n + 48 ≤ 7104584) {σ : cSt} {μ : mSt} {f : Nat → Int64} {g : Nat → UInt64} {Δ : dSt} (hσ : cRel σ Δ) (hμ : mRel μ Δ) (x y z : Int32) (hx : xs (4 * t + 1) = x) (hy : xs (4 * t + 2) = y) (hz : xs (4 * t + 3) = z) (kk : ∀ (σ' : cSt) (μ' : mSt) (f' : Nat → Int64) (g' : Nat → UInt64) (Δ' : dSt), cRel σ' Δ' → mRel μ' Δ' → gG p l e room_1 s m args below meth c D A 9 (k + 8) (n + 48) Q (WC (LC q f' g' μ') σ') 2915 [(0, .ref b), (1, .ref (wx q)), (2, .ref (wm q)), (3, .ref (wo q)), (4, .ref (wd q)), (5, .int (nI (4 * t)))] []) : gG p l e room_1 s m args below meth c D A 9 k n Q (WC (LC q f g μ) σ) 1353 [(0, .ref b), (1, .ref (wx q)), (2, .ref (wm q)), (3, .ref (wo q)), (4, .ref (wd q)), (5, .int (nI (4 * t)))] [] := by
  have hM := gCm hC
  refine gAloadN (pc := 1353) hC dL_law_1353 rfl 1 rfl ?_
  refine gAloadN (pc := 1354) hC dL_law_1354 rfl 0 rfl ?_
  refine gIload (pc := 1355) hC dL_law_1355 5 rfl ?_
  refine gIconst (pc := 1357) hC (v := (nI 1)) dL_law_1357 (by decide +kernel) ?_
  refine gIadd (pc := 1358) hC (v := nI (4 * t + 1)) dL_law_1358 (nI_add _ _) ?_
  refine gSld (pc := 1359) hC (v := x) hX (4 * t + 1) rfl (by omega) hN hx dL_law_1359 ?_
  refine gAloadN (pc := 1360) hC dL_law_1360 rfl 0 rfl ?_
  refine gIload (pc := 1361) hC dL_law_1361 5 rfl ?_
  refine gIconst (pc := 1363) hC (v := (nI 2)) dL_law_1363 (by decide +kernel) ?_
  refine gIadd (pc := 1364) hC (v := nI (4 * t + 2)) dL_law_1364 (nI_add _ _) ?_
  refine gSld (pc := 1365) hC (v := y) hX (4 * t + 2) rfl (by omega) hN hy dL_law_1365 ?_
  refine gAloadN (pc := 1366) hC dL_law_1366 rfl 3 rfl ?_
  obtain ⟨K, hK⟩ : ∃ K : Nat, K = kk1 (okR x) := ⟨_, rfl⟩
  have hKn : ¬ K = 0 → ¬ nI K = 0 := by rw [hK]; exact kk1_n
  refine gSW (pc := 1367) (rest := []) hC hl9 (c_L_digits l D q σ μ f g Δ x y hσ) (vx_cwSW 4 hC.2.2.2.2.1 gL_law_L_digits rfl rfl rfl (by decide +kernel) ⟨Nat.le_of_ble_eq_true rfl, Nat.le_of_ble_eq_true rfl⟩) rfl rfl (Nat.le_of_ble_eq_true rfl) dL_law_1367 ⟨Nat.le_trans (Nat.add_le_add_left (by decide) _) hk, Nat.le_trans (Nat.add_le_add_left (by decide) _) hn⟩ (fun v w1 hp => ?_)
  have hp : wPost q g μ Δ (dRow Δ (rI x) 16 (dg y)) K (fun t : Int64 => ∃ v : Int32, t = v.toInt64 ∧ (fun b => b = nI (16 - cz (dg y) 16)) v) v w1 := by rw [hK]; exact hp
  obtain ⟨rfl, σ1, f1, rfl, h1⟩ := hp
  refine gStk (st' := [.int (nI K)]) (pc' := 1370) rfl rfl ?_
  refine gIstore (pc := 1370) hC (lv' := [(6, .int (nI K)), (0, .ref b), (1, .ref (wx q)), (2, .ref (wm q)), (3, .ref (wo q)), (4, .ref (wd q)), (5, .int (nI (4 * t)))]) dL_law_1370 (by decide) rfl ?_
  refine gAloadN (pc := 1372) hC dL_law_1372 rfl 3 rfl ?_
  refine gAloadN (pc := 1373) hC dL_law_1373 rfl 1 rfl ?_
  refine gIload (pc := 1374) hC dL_law_1374 6 rfl ?_
  refine gIconst (pc := 1376) hC (v := (nI 1)) dL_law_1376 (by decide +kernel) ?_
  refine gIadd (pc := 1377) hC (v := nI (4 * t + 1)) dL_law_1377 (nI_add _ _) ?_
  refine gSld (pc := 1378) hC (v := x) hX (4 * t + 1) rfl (by omega) hN hx dL_law_1378 ?_
  refine gAloadN (pc := 1379) hC dL_law_1379 rfl 1 rfl ?_
  refine gIload (pc := 1380) hC dL_law_1380 6 rfl ?_
  refine gIconst (pc := 1382) hC (v := (nI 2)) dL_law_1382 (by decide +kernel) ?_
  refine gIadd (pc := 1383) hC (v := nI (4 * t + 2)) dL_law_1383 (nI_add _ _) ?_
  refine gSld (pc := 1384) hC (v := y) hX (4 * t + 2) rfl (by omega) hN hy dL_law_1384 ?_
  refine gToM ?_
  refine gV (pc := 1385) (rest := []) (ci := 2) (q0 := 0) hM (c_X2_digits l D (LM q f1 g σ1) μ Δ x y hμ) rfl rfl (cwV 2 hC.2.2.2.2.1 gL_law_X2_digits rfl rfl rfl (by decide +kernel) ⟨Nat.le_of_ble_eq_true rfl, Nat.le_of_ble_eq_true rfl⟩) rfl rfl (Nat.le_of_ble_eq_true rfl) dL_law_1385 ⟨Nat.le_trans (show k + 1 + 0 ≤ k + 8 by omega) hk, Nat.le_trans (show n + 6 + 0 ≤ n + 48 by omega) hn⟩ (fun v w1 hp => ?_)
  have hp : mPost (LM q f1 g σ1) Δ (dRow Δ (rI x) 16 (dg y)) K (fun b => b = nI (16 - cz (dg y) 16)) v w1 := by rw [hK]; exact hp
  obtain ⟨b1, rfl, μ1, rfl, hmt, h2⟩ := hp
  refine gStk (st' := [.int b1]) (pc' := 1388) rfl rfl ?_
  have hj := wJoin h1 h2
  refine gIstore (pc := 1388) hM (lv' := [(7, .int b1), (6, .int (nI K)), (0, .ref b), (1, .ref (wx q)), (2, .ref (wm q)), (3, .ref (wo q)), (4, .ref (wd q)), (5, .int (nI (4 * t)))]) dL_law_1388 (by decide) rfl ?_
  refine gAloadN (pc := 1390) hM dL_law_1390 rfl 4 rfl ?_
  refine gV (pc := 1391) (rest := []) (ci := 2) (q0 := 0) hM (c_X2_thrown l D (LM q f1 g σ1) μ1) rfl rfl (cwV 0 hC.2.2.2.2.1 gL_law_X2_thrown rfl rfl rfl (by decide +kernel) ⟨Nat.le_of_ble_eq_true rfl, Nat.le_of_ble_eq_true rfl⟩) rfl rfl (Nat.le_of_ble_eq_true rfl) dL_law_1391 ⟨Nat.le_trans (show k + 1 + 0 ≤ k + 8 by omega) hk, Nat.le_trans (show n + 6 + 0 ≤ n + 48 by omega) hn⟩ (fun v w1 hp => ?_)
  obtain ⟨rfl, rfl⟩ := hp
  refine gStk (st' := [.int (mt μ1)]) (pc' := 1394) rfl rfl ?_
  refine gIload (pc := 1394) hM dL_law_1394 1 rfl ?_
  refine gIcmp_eq (tgt := 1401) (pc := 1396) hM dL_law_1396 (by decide) (fun _ => ?_) (fun h => absurd hmt h)
  rcases hj with ⟨hK0, ⟨hcv, hσ1⟩, hvl, hμ1⟩ | ⟨hK1, hσ1, hμ1⟩
  · skip
    refine gIload (pc := 1401) hM dL_law_1401 1 rfl ?_
    refine gIf_ne (tgt := 1418) (pc := 1403) hM dL_law_1403 (by decide) (fun h => absurd (by rw [hK0]; rfl) h) (fun _ => ?_)
    obtain ⟨v0, hv0, hcv⟩ := hcv
    have hvb : v0 = b1 := hcv.trans hvl.symm
    refine gAloadN (pc := 1406) hM dL_law_1406 rfl 5 rfl ?_
    refine gIconst (pc := 1407) hM (v := (nI 0)) dL_law_1407 (by decide +kernel) ?_
    refine gLald (pc := 1408) hM 0 rfl (by decide) (by decide) 9 3 rfl rfl rfl dL_law_1408 ?_
    refine gIload (pc := 1409) hM dL_law_1409 0 rfl ?_
    refine gI2l (pc := 1411) hM dL_law_1411 rfl ?_
    refine gLcmp (v := nI 0) (pc := 1412) hM dL_law_1412 (by rw [hv0, hvb]; exact lg_cmp_self _) ?_
    refine gIf_eq (tgt := 1418) (pc := 1413) hM dL_law_1413 (by decide) (fun _ => ?_) (fun h => absurd rfl h)
    refine gGoto (pc := 1418) hM (tgt := 2915) dL_law_1418 (by decide) ?_
    refine gToC ?_
    refine gLoc (lv' := [(0, .ref b), (1, .ref (wx q)), (2, .ref (wm q)), (3, .ref (wo q)), (4, .ref (wd q)), (5, .int (nI (4 * t)))]) [2, 3, 4, 5, 6, 7] rfl ?_
    exact gWid (show k + 1 + 0 + 0 ≤ k + 8 by omega) (show n + 6 + 0 + 0 ≤ n + 48 by omega) (kk σ1 μ1 f1 g (dRow Δ (rI x) 16 (dg y)) hσ1 hμ1)
  · skip
    refine gIload (pc := 1401) hM dL_law_1401 1 rfl ?_
    refine gIf_ne (tgt := 1418) (pc := 1403) hM dL_law_1403 (by decide) (fun _ => ?_) (fun h => absurd h (hKn hK1))
    refine gGoto (pc := 1418) hM (tgt := 2915) dL_law_1418 (by decide) ?_
    refine gToC ?_
    refine gLoc (lv' := [(0, .ref b), (1, .ref (wx q)), (2, .ref (wm q)), (3, .ref (wo q)), (4, .ref (wd q)), (5, .int (nI (4 * t)))]) [2, 3, 4, 5, 6, 7] rfl ?_
    exact gWid (show k + 1 + 0 + 0 ≤ k + 8 by omega) (show n + 6 + 0 + 0 ≤ n + 48 by omega) (kk σ1 μ1 f1 g (Δ) hσ1 hμ1)

set_option maxRecDepth 100000 in
set_option maxHeartbeats 4000000 in
theorem lk_18 {p : Program} {l : Launch} {e : Env} {s : State} {m : MethodId} {args : Array Value} {below : List Frame} {meth : Method} {c : Code} {D : va_G} {A : Nat → Prop} {Q : State → Prop} (q : wLay) {b N : Nat} {xs : Nat → Int32} (hC : gC p s m args meth c cL_law 9 RL wsL_law D (wTy q) A) (hX : va_X b N xs s s.heap ∧ b < s.heap.size ∧ ¬ A b) (hl9 : l.stackTraces = false) (hN : N ≤ 2048) {t k n : Nat} (ht : 4 * t + 4 ≤ N) (hk : k + 8 ≤ 663840) (hn : n + 48 ≤ 7104584) {σ : cSt} {μ : mSt} {f : Nat → Int64} {g : Nat → UInt64} {Δ : dSt} (hσ : cRel σ Δ) (hμ : mRel μ Δ) (x y z : Int32) (hx : xs (4 * t + 1) = x) (hy : xs (4 * t + 2) = y) (hz : xs (4 * t + 3) = z) (kk : ∀ (σ' : cSt) (μ' : mSt) (f' : Nat → Int64) (g' : Nat → UInt64) (Δ' : dSt), cRel σ' Δ' → mRel μ' Δ' → gG p l e room_1 s m args below meth c D A 9 (k + 8) (n + 48) Q (WC (LC q f' g' μ') σ') 2915 [(0, .ref b), (1, .ref (wx q)), (2, .ref (wm q)), (3, .ref (wo q)), (4, .ref (wd q)), (5, .int (nI (4 * t)))] []) : gG p l e room_1 s m args below meth c D A 9 k n Q (WC (LC q f g μ) σ) 1421 [(0, .ref b), (1, .ref (wx q)), (2, .ref (wm q)), (3, .ref (wo q)), (4, .ref (wd q)), (5, .int (nI (4 * t)))] [] := by
  have hM := gCm hC
  refine gAloadN (pc := 1421) hC dL_law_1421 rfl 1 rfl ?_
  refine gAloadN (pc := 1422) hC dL_law_1422 rfl 0 rfl ?_
  refine gIload (pc := 1423) hC dL_law_1423 5 rfl ?_
  refine gIconst (pc := 1425) hC (v := (nI 1)) dL_law_1425 (by decide +kernel) ?_
  refine gIadd (pc := 1426) hC (v := nI (4 * t + 1)) dL_law_1426 (nI_add _ _) ?_
  refine gSld (pc := 1427) hC (v := x) hX (4 * t + 1) rfl (by omega) hN hx dL_law_1427 ?_
  refine gAloadN (pc := 1428) hC dL_law_1428 rfl 3 rfl ?_
  obtain ⟨K, hK⟩ : ∃ K : Nat, K = kk1 (okR x) := ⟨_, rfl⟩
  have hKn : ¬ K = 0 → ¬ nI K = 0 := by rw [hK]; exact kk1_n
  refine gSW (pc := 1429) (rest := []) hC hl9 (c_L_told l D q σ μ f g Δ x hσ) (vx_cwSW 3 hC.2.2.2.2.1 gL_law_L_told rfl rfl rfl (by decide +kernel) ⟨Nat.le_of_ble_eq_true rfl, Nat.le_of_ble_eq_true rfl⟩) rfl rfl (Nat.le_of_ble_eq_true rfl) dL_law_1429 ⟨Nat.le_trans (Nat.add_le_add_left (by decide) _) hk, Nat.le_trans (Nat.add_le_add_left (by decide) _) hn⟩ (fun v w1 hp => ?_)
  have hp : wPost q g μ Δ (Δ) K (fun b => b = lN (sn (Δ.2.1 (rI x)) (fun i => ((Δ.2.2 (rI x)) i).val * 2 ^ (4 * i)))) v w1 := by rw [hK]; exact hp
  obtain ⟨rfl, σ1, f1, rfl, h1⟩ := hp
  refine gStk (st' := [.int (nI K)]) (pc' := 1432) rfl rfl ?_
  refine gIstore (pc := 1432) hC (lv' := [(6, .int (nI K)), (0, .ref b), (1, .ref (wx q)), (2, .ref (wm q)), (3, .ref (wo q)), (4, .ref (wd q)), (5, .int (nI (4 * t)))]) dL_law_1432 (by decide) rfl ?_
  refine gAloadN (pc := 1434) hC dL_law_1434 rfl 3 rfl ?_
  refine gAloadN (pc := 1435) hC dL_law_1435 rfl 1 rfl ?_
  refine gIload (pc := 1436) hC dL_law_1436 6 rfl ?_
  refine gIconst (pc := 1438) hC (v := (nI 1)) dL_law_1438 (by decide +kernel) ?_
  refine gIadd (pc := 1439) hC (v := nI (4 * t + 1)) dL_law_1439 (nI_add _ _) ?_
  refine gSld (pc := 1440) hC (v := x) hX (4 * t + 1) rfl (by omega) hN hx dL_law_1440 ?_
  refine gToM ?_
  refine gV (pc := 1441) (rest := []) (ci := 2) (q0 := 0) hM (c_X2_told l D (LM q f1 g σ1) μ Δ x hμ) rfl rfl (cwV 1 hC.2.2.2.2.1 gL_law_X2_told rfl rfl rfl (by decide +kernel) ⟨Nat.le_of_ble_eq_true rfl, Nat.le_of_ble_eq_true rfl⟩) rfl rfl (Nat.le_of_ble_eq_true rfl) dL_law_1441 ⟨Nat.le_trans (show k + 1 + 0 ≤ k + 8 by omega) hk, Nat.le_trans (show n + 6 + 0 ≤ n + 48 by omega) hn⟩ (fun v w1 hp => ?_)
  have hp : mPostL (LM q f1 g σ1) Δ (Δ) K (fun b => b = lN (sn (Δ.2.1 (rI x)) (fun i => ((Δ.2.2 (rI x)) i).val * 2 ^ (4 * i)))) v w1 := by rw [hK]; exact hp
  obtain ⟨b1, rfl, μ1, rfl, hmt, h2⟩ := hp
  refine gStk (st' := [.long b1]) (pc' := 1444) rfl rfl ?_
  have hj := wJoin h1 h2
  refine gLstore (pc := 1444) hM (lv' := [(7, .long b1), (6, .int (nI K)), (0, .ref b), (1, .ref (wx q)), (2, .ref (wm q)), (3, .ref (wo q)), (4, .ref (wd q)), (5, .int (nI (4 * t)))]) dL_law_1444 (by decide) rfl ?_
  refine gAloadN (pc := 1446) hM dL_law_1446 rfl 4 rfl ?_
  refine gV (pc := 1447) (rest := []) (ci := 2) (q0 := 0) hM (c_X2_thrown l D (LM q f1 g σ1) μ1) rfl rfl (cwV 0 hC.2.2.2.2.1 gL_law_X2_thrown rfl rfl rfl (by decide +kernel) ⟨Nat.le_of_ble_eq_true rfl, Nat.le_of_ble_eq_true rfl⟩) rfl rfl (Nat.le_of_ble_eq_true rfl) dL_law_1447 ⟨Nat.le_trans (show k + 1 + 0 ≤ k + 8 by omega) hk, Nat.le_trans (show n + 6 + 0 ≤ n + 48 by omega) hn⟩ (fun v w1 hp => ?_)
  obtain ⟨rfl, rfl⟩ := hp
  refine gStk (st' := [.int (mt μ1)]) (pc' := 1450) rfl rfl ?_
  refine gIload (pc := 1450) hM dL_law_1450 1 rfl ?_
  refine gIcmp_eq (tgt := 1457) (pc := 1452) hM dL_law_1452 (by decide) (fun _ => ?_) (fun h => absurd hmt h)
  rcases hj with ⟨hK0, ⟨hcv, hσ1⟩, hvl, hμ1⟩ | ⟨hK1, hσ1, hμ1⟩
  · skip
    refine gIload (pc := 1457) hM dL_law_1457 1 rfl ?_
    refine gIf_ne (tgt := 1473) (pc := 1459) hM dL_law_1459 (by decide) (fun h => absurd (by rw [hK0]; rfl) h) (fun _ => ?_)
    have hvb : (f1 0) = b1 := hcv.trans hvl.symm
    refine gAloadN (pc := 1462) hM dL_law_1462 rfl 5 rfl ?_
    refine gIconst (pc := 1463) hM (v := (nI 0)) dL_law_1463 (by decide +kernel) ?_
    refine gLald (pc := 1464) hM 0 rfl (by decide) (by decide) 9 3 rfl rfl rfl dL_law_1464 ?_
    refine gLload (pc := 1465) hM dL_law_1465 0 rfl ?_
    refine gLcmp (v := nI 0) (pc := 1467) hM dL_law_1467 (by rw [hvb]; exact lg_cmp_self _) ?_
    refine gIf_eq (tgt := 1473) (pc := 1468) hM dL_law_1468 (by decide) (fun _ => ?_) (fun h => absurd rfl h)
    refine gGoto (pc := 1473) hM (tgt := 2915) dL_law_1473 (by decide) ?_
    refine gToC ?_
    refine gLoc (lv' := [(0, .ref b), (1, .ref (wx q)), (2, .ref (wm q)), (3, .ref (wo q)), (4, .ref (wd q)), (5, .int (nI (4 * t)))]) [2, 3, 4, 5, 6, 7] rfl ?_
    exact gWid (show k + 1 + 0 + 0 ≤ k + 8 by omega) (show n + 6 + 0 + 0 ≤ n + 48 by omega) (kk σ1 μ1 f1 g (Δ) hσ1 hμ1)
  · skip
    refine gIload (pc := 1457) hM dL_law_1457 1 rfl ?_
    refine gIf_ne (tgt := 1473) (pc := 1459) hM dL_law_1459 (by decide) (fun _ => ?_) (fun h => absurd h (hKn hK1))
    refine gGoto (pc := 1473) hM (tgt := 2915) dL_law_1473 (by decide) ?_
    refine gToC ?_
    refine gLoc (lv' := [(0, .ref b), (1, .ref (wx q)), (2, .ref (wm q)), (3, .ref (wo q)), (4, .ref (wd q)), (5, .int (nI (4 * t)))]) [2, 3, 4, 5, 6, 7] rfl ?_
    exact gWid (show k + 1 + 0 + 0 ≤ k + 8 by omega) (show n + 6 + 0 + 0 ≤ n + 48 by omega) (kk σ1 μ1 f1 g (Δ) hσ1 hμ1)

set_option maxRecDepth 100000 in
set_option maxHeartbeats 4000000 in
theorem lk_19 {p : Program} {l : Launch} {e : Env} {s : State} {m : MethodId} {args : Array Value} {below : List Frame} {meth : Method} {c : Code} {D : va_G} {A : Nat → Prop} {Q : State → Prop} (q : wLay) {b N : Nat} {xs : Nat → Int32} (hC : gC p s m args meth c cL_law 9 RL wsL_law D (wTy q) A) (hX : va_X b N xs s s.heap ∧ b < s.heap.size ∧ ¬ A b) (hl9 : l.stackTraces = false) (hN : N ≤ 2048) {t k n : Nat} (ht : 4 * t + 4 ≤ N) (hk : k + 8 ≤ 663840) (hn : n + 48 ≤ 7104584) {σ : cSt} {μ : mSt} {f : Nat → Int64} {g : Nat → UInt64} {Δ : dSt} (hσ : cRel σ Δ) (hμ : mRel μ Δ) (x y z : Int32) (hx : xs (4 * t + 1) = x) (hy : xs (4 * t + 2) = y) (hz : xs (4 * t + 3) = z) (kk : ∀ (σ' : cSt) (μ' : mSt) (f' : Nat → Int64) (g' : Nat → UInt64) (Δ' : dSt), cRel σ' Δ' → mRel μ' Δ' → gG p l e room_1 s m args below meth c D A 9 (k + 8) (n + 48) Q (WC (LC q f' g' μ') σ') 2915 [(0, .ref b), (1, .ref (wx q)), (2, .ref (wm q)), (3, .ref (wo q)), (4, .ref (wd q)), (5, .int (nI (4 * t)))] []) : gG p l e room_1 s m args below meth c D A 9 k n Q (WC (LC q f g μ) σ) 1476 [(0, .ref b), (1, .ref (wx q)), (2, .ref (wm q)), (3, .ref (wo q)), (4, .ref (wd q)), (5, .int (nI (4 * t)))] [] := by
  have hM := gCm hC
  refine gAloadN (pc := 1476) hC dL_law_1476 rfl 1 rfl ?_
  refine gAloadN (pc := 1477) hC dL_law_1477 rfl 0 rfl ?_
  refine gIload (pc := 1478) hC dL_law_1478 5 rfl ?_
  refine gIconst (pc := 1480) hC (v := (nI 1)) dL_law_1480 (by decide +kernel) ?_
  refine gIadd (pc := 1481) hC (v := nI (4 * t + 1)) dL_law_1481 (nI_add _ _) ?_
  refine gSld (pc := 1482) hC (v := x) hX (4 * t + 1) rfl (by omega) hN hx dL_law_1482 ?_
  refine gAloadN (pc := 1483) hC dL_law_1483 rfl 0 rfl ?_
  refine gIload (pc := 1484) hC dL_law_1484 5 rfl ?_
  refine gIconst (pc := 1486) hC (v := (nI 2)) dL_law_1486 (by decide +kernel) ?_
  refine gIadd (pc := 1487) hC (v := nI (4 * t + 2)) dL_law_1487 (nI_add _ _) ?_
  refine gSld (pc := 1488) hC (v := y) hX (4 * t + 2) rfl (by omega) hN hy dL_law_1488 ?_
  refine gAloadN (pc := 1489) hC dL_law_1489 rfl 3 rfl ?_
  obtain ⟨K, hK⟩ : ∃ K : Nat, K = kk1 (okR x) := ⟨_, rfl⟩
  have hKn : ¬ K = 0 → ¬ nI K = 0 := by rw [hK]; exact kk1_n
  refine gSW (pc := 1490) (rest := []) hC hl9 (c_L_shift l D q σ μ f g Δ x y hσ) (vx_cwSW 4 hC.2.2.2.2.1 gL_law_L_shift rfl rfl rfl (by decide +kernel) ⟨Nat.le_of_ble_eq_true rfl, Nat.le_of_ble_eq_true rfl⟩) rfl rfl (Nat.le_of_ble_eq_true rfl) dL_law_1490 ⟨Nat.le_trans (Nat.add_le_add_left (by decide) _) hk, Nat.le_trans (Nat.add_le_add_left (by decide) _) hn⟩ (fun v w1 hp => ?_)
  have hp : wPost q g μ Δ (dRow Δ (rI x) (Δ.2.1 (rI x)) (fun i => (Δ.2.2 (rI x)) (ix (Δ.2.1 (rI x)) ((i : Int) - y.toInt)))) K (fun t : Int64 => ∃ v : Int32, t = v.toInt64 ∧ (fun b => b = nI ((fun i => (Δ.2.2 (rI x)) (ix (Δ.2.1 (rI x)) ((i : Int) - y.toInt))) 0).val) v) v w1 := by rw [hK]; exact hp
  obtain ⟨rfl, σ1, f1, rfl, h1⟩ := hp
  refine gStk (st' := [.int (nI K)]) (pc' := 1493) rfl rfl ?_
  refine gIstore (pc := 1493) hC (lv' := [(6, .int (nI K)), (0, .ref b), (1, .ref (wx q)), (2, .ref (wm q)), (3, .ref (wo q)), (4, .ref (wd q)), (5, .int (nI (4 * t)))]) dL_law_1493 (by decide) rfl ?_
  refine gAloadN (pc := 1495) hC dL_law_1495 rfl 3 rfl ?_
  refine gAloadN (pc := 1496) hC dL_law_1496 rfl 1 rfl ?_
  refine gIload (pc := 1497) hC dL_law_1497 6 rfl ?_
  refine gIconst (pc := 1499) hC (v := (nI 1)) dL_law_1499 (by decide +kernel) ?_
  refine gIadd (pc := 1500) hC (v := nI (4 * t + 1)) dL_law_1500 (nI_add _ _) ?_
  refine gSld (pc := 1501) hC (v := x) hX (4 * t + 1) rfl (by omega) hN hx dL_law_1501 ?_
  refine gAloadN (pc := 1502) hC dL_law_1502 rfl 1 rfl ?_
  refine gIload (pc := 1503) hC dL_law_1503 6 rfl ?_
  refine gIconst (pc := 1505) hC (v := (nI 2)) dL_law_1505 (by decide +kernel) ?_
  refine gIadd (pc := 1506) hC (v := nI (4 * t + 2)) dL_law_1506 (nI_add _ _) ?_
  refine gSld (pc := 1507) hC (v := y) hX (4 * t + 2) rfl (by omega) hN hy dL_law_1507 ?_
  refine gToM ?_
  refine gV (pc := 1508) (rest := []) (ci := 2) (q0 := 0) hM (c_X2_shift l D (LM q f1 g σ1) μ Δ x y hμ) rfl rfl (cwV 2 hC.2.2.2.2.1 gL_law_X2_shift rfl rfl rfl (by decide +kernel) ⟨Nat.le_of_ble_eq_true rfl, Nat.le_of_ble_eq_true rfl⟩) rfl rfl (Nat.le_of_ble_eq_true rfl) dL_law_1508 ⟨Nat.le_trans (show k + 1 + 0 ≤ k + 8 by omega) hk, Nat.le_trans (show n + 6 + 0 ≤ n + 48 by omega) hn⟩ (fun v w1 hp => ?_)
  have hp : mPost (LM q f1 g σ1) Δ (dRow Δ (rI x) (Δ.2.1 (rI x)) (fun i => (Δ.2.2 (rI x)) (ix (Δ.2.1 (rI x)) ((i : Int) - y.toInt)))) K (fun b => b = nI ((fun i => (Δ.2.2 (rI x)) (ix (Δ.2.1 (rI x)) ((i : Int) - y.toInt))) 0).val) v w1 := by rw [hK]; exact hp
  obtain ⟨b1, rfl, μ1, rfl, hmt, h2⟩ := hp
  refine gStk (st' := [.int b1]) (pc' := 1511) rfl rfl ?_
  have hj := wJoin h1 h2
  refine gIstore (pc := 1511) hM (lv' := [(7, .int b1), (6, .int (nI K)), (0, .ref b), (1, .ref (wx q)), (2, .ref (wm q)), (3, .ref (wo q)), (4, .ref (wd q)), (5, .int (nI (4 * t)))]) dL_law_1511 (by decide) rfl ?_
  refine gAloadN (pc := 1513) hM dL_law_1513 rfl 4 rfl ?_
  refine gV (pc := 1514) (rest := []) (ci := 2) (q0 := 0) hM (c_X2_thrown l D (LM q f1 g σ1) μ1) rfl rfl (cwV 0 hC.2.2.2.2.1 gL_law_X2_thrown rfl rfl rfl (by decide +kernel) ⟨Nat.le_of_ble_eq_true rfl, Nat.le_of_ble_eq_true rfl⟩) rfl rfl (Nat.le_of_ble_eq_true rfl) dL_law_1514 ⟨Nat.le_trans (show k + 1 + 0 ≤ k + 8 by omega) hk, Nat.le_trans (show n + 6 + 0 ≤ n + 48 by omega) hn⟩ (fun v w1 hp => ?_)
  obtain ⟨rfl, rfl⟩ := hp
  refine gStk (st' := [.int (mt μ1)]) (pc' := 1517) rfl rfl ?_
  refine gIload (pc := 1517) hM dL_law_1517 1 rfl ?_
  refine gIcmp_eq (tgt := 1524) (pc := 1519) hM dL_law_1519 (by decide) (fun _ => ?_) (fun h => absurd hmt h)
  rcases hj with ⟨hK0, ⟨hcv, hσ1⟩, hvl, hμ1⟩ | ⟨hK1, hσ1, hμ1⟩
  · skip
    refine gIload (pc := 1524) hM dL_law_1524 1 rfl ?_
    refine gIf_ne (tgt := 1541) (pc := 1526) hM dL_law_1526 (by decide) (fun h => absurd (by rw [hK0]; rfl) h) (fun _ => ?_)
    obtain ⟨v0, hv0, hcv⟩ := hcv
    have hvb : v0 = b1 := hcv.trans hvl.symm
    refine gAloadN (pc := 1529) hM dL_law_1529 rfl 5 rfl ?_
    refine gIconst (pc := 1530) hM (v := (nI 0)) dL_law_1530 (by decide +kernel) ?_
    refine gLald (pc := 1531) hM 0 rfl (by decide) (by decide) 9 3 rfl rfl rfl dL_law_1531 ?_
    refine gIload (pc := 1532) hM dL_law_1532 0 rfl ?_
    refine gI2l (pc := 1534) hM dL_law_1534 rfl ?_
    refine gLcmp (v := nI 0) (pc := 1535) hM dL_law_1535 (by rw [hv0, hvb]; exact lg_cmp_self _) ?_
    refine gIf_eq (tgt := 1541) (pc := 1536) hM dL_law_1536 (by decide) (fun _ => ?_) (fun h => absurd rfl h)
    refine gGoto (pc := 1541) hM (tgt := 2915) dL_law_1541 (by decide) ?_
    refine gToC ?_
    refine gLoc (lv' := [(0, .ref b), (1, .ref (wx q)), (2, .ref (wm q)), (3, .ref (wo q)), (4, .ref (wd q)), (5, .int (nI (4 * t)))]) [2, 3, 4, 5, 6, 7] rfl ?_
    exact gWid (show k + 1 + 0 + 0 ≤ k + 8 by omega) (show n + 6 + 0 + 0 ≤ n + 48 by omega) (kk σ1 μ1 f1 g (dRow Δ (rI x) (Δ.2.1 (rI x)) (fun i => (Δ.2.2 (rI x)) (ix (Δ.2.1 (rI x)) ((i : Int) - y.toInt)))) hσ1 hμ1)
  · skip
    refine gIload (pc := 1524) hM dL_law_1524 1 rfl ?_
    refine gIf_ne (tgt := 1541) (pc := 1526) hM dL_law_1526 (by decide) (fun _ => ?_) (fun h => absurd h (hKn hK1))
    refine gGoto (pc := 1541) hM (tgt := 2915) dL_law_1541 (by decide) ?_
    refine gToC ?_
    refine gLoc (lv' := [(0, .ref b), (1, .ref (wx q)), (2, .ref (wm q)), (3, .ref (wo q)), (4, .ref (wd q)), (5, .int (nI (4 * t)))]) [2, 3, 4, 5, 6, 7] rfl ?_
    exact gWid (show k + 1 + 0 + 0 ≤ k + 8 by omega) (show n + 6 + 0 + 0 ≤ n + 48 by omega) (kk σ1 μ1 f1 g (Δ) hσ1 hμ1)

set_option maxRecDepth 100000 in
set_option maxHeartbeats 4000000 in
theorem lk_20 {p : Program} {l : Launch} {e : Env} {s : State} {m : MethodId} {args : Array Value} {below : List Frame} {meth : Method} {c : Code} {D : va_G} {A : Nat → Prop} {Q : State → Prop} (q : wLay) {b N : Nat} {xs : Nat → Int32} (hC : gC p s m args meth c cL_law 9 RL wsL_law D (wTy q) A) (hX : va_X b N xs s s.heap ∧ b < s.heap.size ∧ ¬ A b) (hl9 : l.stackTraces = false) (hN : N ≤ 2048) {t k n : Nat} (ht : 4 * t + 4 ≤ N) (hk : k + 8 ≤ 663840) (hn : n + 48 ≤ 7104584) {σ : cSt} {μ : mSt} {f : Nat → Int64} {g : Nat → UInt64} {Δ : dSt} (hσ : cRel σ Δ) (hμ : mRel μ Δ) (x y z : Int32) (hx : xs (4 * t + 1) = x) (hy : xs (4 * t + 2) = y) (hz : xs (4 * t + 3) = z) (kk : ∀ (σ' : cSt) (μ' : mSt) (f' : Nat → Int64) (g' : Nat → UInt64) (Δ' : dSt), cRel σ' Δ' → mRel μ' Δ' → gG p l e room_1 s m args below meth c D A 9 (k + 8) (n + 48) Q (WC (LC q f' g' μ') σ') 2915 [(0, .ref b), (1, .ref (wx q)), (2, .ref (wm q)), (3, .ref (wo q)), (4, .ref (wd q)), (5, .int (nI (4 * t)))] []) : gG p l e room_1 s m args below meth c D A 9 k n Q (WC (LC q f g μ) σ) 1544 [(0, .ref b), (1, .ref (wx q)), (2, .ref (wm q)), (3, .ref (wo q)), (4, .ref (wd q)), (5, .int (nI (4 * t)))] [] := by
  have hM := gCm hC
  refine gAloadN (pc := 1544) hC dL_law_1544 rfl 1 rfl ?_
  refine gAloadN (pc := 1545) hC dL_law_1545 rfl 0 rfl ?_
  refine gIload (pc := 1546) hC dL_law_1546 5 rfl ?_
  refine gIconst (pc := 1548) hC (v := (nI 1)) dL_law_1548 (by decide +kernel) ?_
  refine gIadd (pc := 1549) hC (v := nI (4 * t + 1)) dL_law_1549 (nI_add _ _) ?_
  refine gSld (pc := 1550) hC (v := x) hX (4 * t + 1) rfl (by omega) hN hx dL_law_1550 ?_
  refine gAloadN (pc := 1551) hC dL_law_1551 rfl 0 rfl ?_
  refine gIload (pc := 1552) hC dL_law_1552 5 rfl ?_
  refine gIconst (pc := 1554) hC (v := (nI 2)) dL_law_1554 (by decide +kernel) ?_
  refine gIadd (pc := 1555) hC (v := nI (4 * t + 2)) dL_law_1555 (nI_add _ _) ?_
  refine gSld (pc := 1556) hC (v := y) hX (4 * t + 2) rfl (by omega) hN hy dL_law_1556 ?_
  refine gAloadN (pc := 1557) hC dL_law_1557 rfl 3 rfl ?_
  obtain ⟨K, hK⟩ : ∃ K : Nat, K = kk1 (okR x) := ⟨_, rfl⟩
  have hKn : ¬ K = 0 → ¬ nI K = 0 := by rw [hK]; exact kk1_n
  refine gSW (pc := 1558) (rest := []) hC hl9 (c_L_weigh l D q σ μ f g Δ x y hσ) (vx_cwSW 4 hC.2.2.2.2.1 gL_law_L_weigh rfl rfl rfl (by decide +kernel) ⟨Nat.le_of_ble_eq_true rfl, Nat.le_of_ble_eq_true rfl⟩) rfl rfl (Nat.le_of_ble_eq_true rfl) dL_law_1558 ⟨Nat.le_trans (Nat.add_le_add_left (by decide) _) hk, Nat.le_trans (Nat.add_le_add_left (by decide) _) hn⟩ (fun v w1 hp => ?_)
  have hp : wPost q g μ Δ (dRow Δ (rI x) (Δ.2.1 (rI x)) (fun i => (Δ.2.2 (rI x)) i * pz ((un Δ.1 (Δ.2.1 (rI x))) * (y.toInt * i)))) K (fun t : Int64 => ∃ v : Int32, t = v.toInt64 ∧ (fun b => b = nI ((fun i => (Δ.2.2 (rI x)) i * pz ((un Δ.1 (Δ.2.1 (rI x))) * (y.toInt * i))) 1).val) v) v w1 := by rw [hK]; exact hp
  obtain ⟨rfl, σ1, f1, rfl, h1⟩ := hp
  refine gStk (st' := [.int (nI K)]) (pc' := 1561) rfl rfl ?_
  refine gIstore (pc := 1561) hC (lv' := [(6, .int (nI K)), (0, .ref b), (1, .ref (wx q)), (2, .ref (wm q)), (3, .ref (wo q)), (4, .ref (wd q)), (5, .int (nI (4 * t)))]) dL_law_1561 (by decide) rfl ?_
  refine gAloadN (pc := 1563) hC dL_law_1563 rfl 3 rfl ?_
  refine gAloadN (pc := 1564) hC dL_law_1564 rfl 1 rfl ?_
  refine gIload (pc := 1565) hC dL_law_1565 6 rfl ?_
  refine gIconst (pc := 1567) hC (v := (nI 1)) dL_law_1567 (by decide +kernel) ?_
  refine gIadd (pc := 1568) hC (v := nI (4 * t + 1)) dL_law_1568 (nI_add _ _) ?_
  refine gSld (pc := 1569) hC (v := x) hX (4 * t + 1) rfl (by omega) hN hx dL_law_1569 ?_
  refine gAloadN (pc := 1570) hC dL_law_1570 rfl 1 rfl ?_
  refine gIload (pc := 1571) hC dL_law_1571 6 rfl ?_
  refine gIconst (pc := 1573) hC (v := (nI 2)) dL_law_1573 (by decide +kernel) ?_
  refine gIadd (pc := 1574) hC (v := nI (4 * t + 2)) dL_law_1574 (nI_add _ _) ?_
  refine gSld (pc := 1575) hC (v := y) hX (4 * t + 2) rfl (by omega) hN hy dL_law_1575 ?_
  refine gToM ?_
  refine gV (pc := 1576) (rest := []) (ci := 2) (q0 := 0) hM (c_X2_weigh l D (LM q f1 g σ1) μ Δ x y hμ) rfl rfl (cwV 2 hC.2.2.2.2.1 gL_law_X2_weigh rfl rfl rfl (by decide +kernel) ⟨Nat.le_of_ble_eq_true rfl, Nat.le_of_ble_eq_true rfl⟩) rfl rfl (Nat.le_of_ble_eq_true rfl) dL_law_1576 ⟨Nat.le_trans (show k + 1 + 0 ≤ k + 8 by omega) hk, Nat.le_trans (show n + 6 + 0 ≤ n + 48 by omega) hn⟩ (fun v w1 hp => ?_)
  have hp : mPost (LM q f1 g σ1) Δ (dRow Δ (rI x) (Δ.2.1 (rI x)) (fun i => (Δ.2.2 (rI x)) i * pz ((un Δ.1 (Δ.2.1 (rI x))) * (y.toInt * i)))) K (fun b => b = nI ((fun i => (Δ.2.2 (rI x)) i * pz ((un Δ.1 (Δ.2.1 (rI x))) * (y.toInt * i))) 1).val) v w1 := by rw [hK]; exact hp
  obtain ⟨b1, rfl, μ1, rfl, hmt, h2⟩ := hp
  refine gStk (st' := [.int b1]) (pc' := 1579) rfl rfl ?_
  have hj := wJoin h1 h2
  refine gIstore (pc := 1579) hM (lv' := [(7, .int b1), (6, .int (nI K)), (0, .ref b), (1, .ref (wx q)), (2, .ref (wm q)), (3, .ref (wo q)), (4, .ref (wd q)), (5, .int (nI (4 * t)))]) dL_law_1579 (by decide) rfl ?_
  refine gAloadN (pc := 1581) hM dL_law_1581 rfl 4 rfl ?_
  refine gV (pc := 1582) (rest := []) (ci := 2) (q0 := 0) hM (c_X2_thrown l D (LM q f1 g σ1) μ1) rfl rfl (cwV 0 hC.2.2.2.2.1 gL_law_X2_thrown rfl rfl rfl (by decide +kernel) ⟨Nat.le_of_ble_eq_true rfl, Nat.le_of_ble_eq_true rfl⟩) rfl rfl (Nat.le_of_ble_eq_true rfl) dL_law_1582 ⟨Nat.le_trans (show k + 1 + 0 ≤ k + 8 by omega) hk, Nat.le_trans (show n + 6 + 0 ≤ n + 48 by omega) hn⟩ (fun v w1 hp => ?_)
  obtain ⟨rfl, rfl⟩ := hp
  refine gStk (st' := [.int (mt μ1)]) (pc' := 1585) rfl rfl ?_
  refine gIload (pc := 1585) hM dL_law_1585 1 rfl ?_
  refine gIcmp_eq (tgt := 1592) (pc := 1587) hM dL_law_1587 (by decide) (fun _ => ?_) (fun h => absurd hmt h)
  rcases hj with ⟨hK0, ⟨hcv, hσ1⟩, hvl, hμ1⟩ | ⟨hK1, hσ1, hμ1⟩
  · skip
    refine gIload (pc := 1592) hM dL_law_1592 1 rfl ?_
    refine gIf_ne (tgt := 1609) (pc := 1594) hM dL_law_1594 (by decide) (fun h => absurd (by rw [hK0]; rfl) h) (fun _ => ?_)
    obtain ⟨v0, hv0, hcv⟩ := hcv
    have hvb : v0 = b1 := hcv.trans hvl.symm
    refine gAloadN (pc := 1597) hM dL_law_1597 rfl 5 rfl ?_
    refine gIconst (pc := 1598) hM (v := (nI 0)) dL_law_1598 (by decide +kernel) ?_
    refine gLald (pc := 1599) hM 0 rfl (by decide) (by decide) 9 3 rfl rfl rfl dL_law_1599 ?_
    refine gIload (pc := 1600) hM dL_law_1600 0 rfl ?_
    refine gI2l (pc := 1602) hM dL_law_1602 rfl ?_
    refine gLcmp (v := nI 0) (pc := 1603) hM dL_law_1603 (by rw [hv0, hvb]; exact lg_cmp_self _) ?_
    refine gIf_eq (tgt := 1609) (pc := 1604) hM dL_law_1604 (by decide) (fun _ => ?_) (fun h => absurd rfl h)
    refine gGoto (pc := 1609) hM (tgt := 2915) dL_law_1609 (by decide) ?_
    refine gToC ?_
    refine gLoc (lv' := [(0, .ref b), (1, .ref (wx q)), (2, .ref (wm q)), (3, .ref (wo q)), (4, .ref (wd q)), (5, .int (nI (4 * t)))]) [2, 3, 4, 5, 6, 7] rfl ?_
    exact gWid (show k + 1 + 0 + 0 ≤ k + 8 by omega) (show n + 6 + 0 + 0 ≤ n + 48 by omega) (kk σ1 μ1 f1 g (dRow Δ (rI x) (Δ.2.1 (rI x)) (fun i => (Δ.2.2 (rI x)) i * pz ((un Δ.1 (Δ.2.1 (rI x))) * (y.toInt * i)))) hσ1 hμ1)
  · skip
    refine gIload (pc := 1592) hM dL_law_1592 1 rfl ?_
    refine gIf_ne (tgt := 1609) (pc := 1594) hM dL_law_1594 (by decide) (fun _ => ?_) (fun h => absurd h (hKn hK1))
    refine gGoto (pc := 1609) hM (tgt := 2915) dL_law_1609 (by decide) ?_
    refine gToC ?_
    refine gLoc (lv' := [(0, .ref b), (1, .ref (wx q)), (2, .ref (wm q)), (3, .ref (wo q)), (4, .ref (wd q)), (5, .int (nI (4 * t)))]) [2, 3, 4, 5, 6, 7] rfl ?_
    exact gWid (show k + 1 + 0 + 0 ≤ k + 8 by omega) (show n + 6 + 0 + 0 ≤ n + 48 by omega) (kk σ1 μ1 f1 g (Δ) hσ1 hμ1)

set_option maxRecDepth 100000 in
set_option maxHeartbeats 4000000 in
theorem lk_21 {p : Program} {l : Launch} {e : Env} {s : State} {m : MethodId} {args : Array Value} {below : List Frame} {meth : Method} {c : Code} {D : va_G} {A : Nat → Prop} {Q : State → Prop} (q : wLay) {b N : Nat} {xs : Nat → Int32} (hC : gC p s m args meth c cL_law 9 RL wsL_law D (wTy q) A) (hX : va_X b N xs s s.heap ∧ b < s.heap.size ∧ ¬ A b) (hl9 : l.stackTraces = false) (hN : N ≤ 2048) {t k n : Nat} (ht : 4 * t + 4 ≤ N) (hk : k + 8 ≤ 663840) (hn : n + 48 ≤ 7104584) {σ : cSt} {μ : mSt} {f : Nat → Int64} {g : Nat → UInt64} {Δ : dSt} (hσ : cRel σ Δ) (hμ : mRel μ Δ) (x y z : Int32) (hx : xs (4 * t + 1) = x) (hy : xs (4 * t + 2) = y) (hz : xs (4 * t + 3) = z) (kk : ∀ (σ' : cSt) (μ' : mSt) (f' : Nat → Int64) (g' : Nat → UInt64) (Δ' : dSt), cRel σ' Δ' → mRel μ' Δ' → gG p l e room_1 s m args below meth c D A 9 (k + 8) (n + 48) Q (WC (LC q f' g' μ') σ') 2915 [(0, .ref b), (1, .ref (wx q)), (2, .ref (wm q)), (3, .ref (wo q)), (4, .ref (wd q)), (5, .int (nI (4 * t)))] []) : gG p l e room_1 s m args below meth c D A 9 k n Q (WC (LC q f g μ) σ) 1612 [(0, .ref b), (1, .ref (wx q)), (2, .ref (wm q)), (3, .ref (wo q)), (4, .ref (wd q)), (5, .int (nI (4 * t)))] [] := by
  have hM := gCm hC
  refine gAloadN (pc := 1612) hC dL_law_1612 rfl 1 rfl ?_
  refine gAloadN (pc := 1613) hC dL_law_1613 rfl 0 rfl ?_
  refine gIload (pc := 1614) hC dL_law_1614 5 rfl ?_
  refine gIconst (pc := 1616) hC (v := (nI 1)) dL_law_1616 (by decide +kernel) ?_
  refine gIadd (pc := 1617) hC (v := nI (4 * t + 1)) dL_law_1617 (nI_add _ _) ?_
  refine gSld (pc := 1618) hC (v := x) hX (4 * t + 1) rfl (by omega) hN hx dL_law_1618 ?_
  refine gAloadN (pc := 1619) hC dL_law_1619 rfl 3 rfl ?_
  obtain ⟨K, hK⟩ : ∃ K : Nat, K = kk1 (okR x) := ⟨_, rfl⟩
  have hKn : ¬ K = 0 → ¬ nI K = 0 := by rw [hK]; exact kk1_n
  refine gSW (pc := 1620) (rest := []) hC hl9 (c_L_turnRound l D q σ μ f g Δ x hσ) (vx_cwSW 3 hC.2.2.2.2.1 gL_law_L_turnRound rfl rfl rfl (by decide +kernel) ⟨Nat.le_of_ble_eq_true rfl, Nat.le_of_ble_eq_true rfl⟩) rfl rfl (Nat.le_of_ble_eq_true rfl) dL_law_1620 ⟨Nat.le_trans (Nat.add_le_add_left (by decide) _) hk, Nat.le_trans (Nat.add_le_add_left (by decide) _) hn⟩ (fun v w1 hp => ?_)
  have hp : wPost q g μ Δ (dRow Δ (rI x) (Δ.2.1 (rI x)) (fun i => (Δ.2.2 (rI x)) (ix (Δ.2.1 (rI x)) (-(i : Int))))) K (fun t : Int64 => ∃ v : Int32, t = bl v ∧ (fun b => b = if 0 < cd (Δ.2.2 (rI x)) (fun i => (Δ.2.2 (rI x)) (ix (Δ.2.1 (rI x)) (-(i : Int)))) (Δ.2.1 (rI x)) then nI 1 else nI 0) v) v w1 := by rw [hK]; exact hp
  obtain ⟨rfl, σ1, f1, rfl, h1⟩ := hp
  refine gStk (st' := [.int (nI K)]) (pc' := 1623) rfl rfl ?_
  refine gIstore (pc := 1623) hC (lv' := [(6, .int (nI K)), (0, .ref b), (1, .ref (wx q)), (2, .ref (wm q)), (3, .ref (wo q)), (4, .ref (wd q)), (5, .int (nI (4 * t)))]) dL_law_1623 (by decide) rfl ?_
  refine gAloadN (pc := 1625) hC dL_law_1625 rfl 3 rfl ?_
  refine gAloadN (pc := 1626) hC dL_law_1626 rfl 1 rfl ?_
  refine gIload (pc := 1627) hC dL_law_1627 6 rfl ?_
  refine gIconst (pc := 1629) hC (v := (nI 1)) dL_law_1629 (by decide +kernel) ?_
  refine gIadd (pc := 1630) hC (v := nI (4 * t + 1)) dL_law_1630 (nI_add _ _) ?_
  refine gSld (pc := 1631) hC (v := x) hX (4 * t + 1) rfl (by omega) hN hx dL_law_1631 ?_
  refine gToM ?_
  refine gV (pc := 1632) (rest := []) (ci := 2) (q0 := 0) hM (c_X2_turnRound l D (LM q f1 g σ1) μ Δ x hμ) rfl rfl (cwV 1 hC.2.2.2.2.1 gL_law_X2_turnRound rfl rfl rfl (by decide +kernel) ⟨Nat.le_of_ble_eq_true rfl, Nat.le_of_ble_eq_true rfl⟩) rfl rfl (Nat.le_of_ble_eq_true rfl) dL_law_1632 ⟨Nat.le_trans (show k + 1 + 0 ≤ k + 8 by omega) hk, Nat.le_trans (show n + 6 + 0 ≤ n + 48 by omega) hn⟩ (fun v w1 hp => ?_)
  have hp : mPost (LM q f1 g σ1) Δ (dRow Δ (rI x) (Δ.2.1 (rI x)) (fun i => (Δ.2.2 (rI x)) (ix (Δ.2.1 (rI x)) (-(i : Int))))) K (fun b => b = if 0 < cd (Δ.2.2 (rI x)) (fun i => (Δ.2.2 (rI x)) (ix (Δ.2.1 (rI x)) (-(i : Int)))) (Δ.2.1 (rI x)) then nI 1 else nI 0) v w1 := by rw [hK]; exact hp
  obtain ⟨b1, rfl, μ1, rfl, hmt, h2⟩ := hp
  refine gStk (st' := [.int b1]) (pc' := 1635) rfl rfl ?_
  have hj := wJoin h1 h2
  refine gIstore (pc := 1635) hM (lv' := [(7, .int b1), (6, .int (nI K)), (0, .ref b), (1, .ref (wx q)), (2, .ref (wm q)), (3, .ref (wo q)), (4, .ref (wd q)), (5, .int (nI (4 * t)))]) dL_law_1635 (by decide) rfl ?_
  refine gAloadN (pc := 1637) hM dL_law_1637 rfl 4 rfl ?_
  refine gV (pc := 1638) (rest := []) (ci := 2) (q0 := 0) hM (c_X2_thrown l D (LM q f1 g σ1) μ1) rfl rfl (cwV 0 hC.2.2.2.2.1 gL_law_X2_thrown rfl rfl rfl (by decide +kernel) ⟨Nat.le_of_ble_eq_true rfl, Nat.le_of_ble_eq_true rfl⟩) rfl rfl (Nat.le_of_ble_eq_true rfl) dL_law_1638 ⟨Nat.le_trans (show k + 1 + 0 ≤ k + 8 by omega) hk, Nat.le_trans (show n + 6 + 0 ≤ n + 48 by omega) hn⟩ (fun v w1 hp => ?_)
  obtain ⟨rfl, rfl⟩ := hp
  refine gStk (st' := [.int (mt μ1)]) (pc' := 1641) rfl rfl ?_
  refine gIload (pc := 1641) hM dL_law_1641 1 rfl ?_
  refine gIcmp_eq (tgt := 1648) (pc := 1643) hM dL_law_1643 (by decide) (fun _ => ?_) (fun h => absurd hmt h)
  rcases hj with ⟨hK0, ⟨hcv, hσ1⟩, hvl, hμ1⟩ | ⟨hK1, hσ1, hμ1⟩
  · skip
    refine gIload (pc := 1648) hM dL_law_1648 1 rfl ?_
    refine gIf_ne (tgt := 1672) (pc := 1650) hM dL_law_1650 (by decide) (fun h => absurd (by rw [hK0]; rfl) h) (fun _ => ?_)
    obtain ⟨v0, hv0, hcv⟩ := hcv
    have hvb : v0 = b1 := hcv.trans hvl.symm
    refine gAloadN (pc := 1653) hM dL_law_1653 rfl 5 rfl ?_
    refine gIconst (pc := 1654) hM (v := (nI 0)) dL_law_1654 (by decide +kernel) ?_
    refine gLald (pc := 1655) hM 0 rfl (by decide) (by decide) 9 3 rfl rfl rfl dL_law_1655 ?_
    refine gIload (pc := 1656) hM dL_law_1656 0 rfl ?_
    refine gNl hM 1658 dL_law_1658 dL_law_1661 dL_law_1662 dL_law_1665 ?_
    refine gStk (st' := [.long (bl b1), .long (f1 0)]) (pc' := 1666) rfl rfl ?_
    refine gLcmp (v := nI 0) (pc := 1666) hM dL_law_1666 (by rw [hv0, hvb]; exact lg_cmp_self _) ?_
    refine gIf_eq (tgt := 1672) (pc := 1667) hM dL_law_1667 (by decide) (fun _ => ?_) (fun h => absurd rfl h)
    refine gGoto (pc := 1672) hM (tgt := 2915) dL_law_1672 (by decide) ?_
    refine gToC ?_
    refine gLoc (lv' := [(0, .ref b), (1, .ref (wx q)), (2, .ref (wm q)), (3, .ref (wo q)), (4, .ref (wd q)), (5, .int (nI (4 * t)))]) [2, 3, 4, 5, 6, 7] rfl ?_
    exact gWid (show k + 1 + 0 + 0 ≤ k + 8 by omega) (show n + 6 + 0 + 0 ≤ n + 48 by omega) (kk σ1 μ1 f1 g (dRow Δ (rI x) (Δ.2.1 (rI x)) (fun i => (Δ.2.2 (rI x)) (ix (Δ.2.1 (rI x)) (-(i : Int))))) hσ1 hμ1)
  · skip
    refine gIload (pc := 1648) hM dL_law_1648 1 rfl ?_
    refine gIf_ne (tgt := 1672) (pc := 1650) hM dL_law_1650 (by decide) (fun _ => ?_) (fun h => absurd h (hKn hK1))
    refine gGoto (pc := 1672) hM (tgt := 2915) dL_law_1672 (by decide) ?_
    refine gToC ?_
    refine gLoc (lv' := [(0, .ref b), (1, .ref (wx q)), (2, .ref (wm q)), (3, .ref (wo q)), (4, .ref (wd q)), (5, .int (nI (4 * t)))]) [2, 3, 4, 5, 6, 7] rfl ?_
    exact gWid (show k + 1 + 0 + 0 ≤ k + 8 by omega) (show n + 6 + 0 + 0 ≤ n + 48 by omega) (kk σ1 μ1 f1 g (Δ) hσ1 hμ1)

set_option maxRecDepth 100000 in
set_option maxHeartbeats 4000000 in
theorem lk_22 {p : Program} {l : Launch} {e : Env} {s : State} {m : MethodId} {args : Array Value} {below : List Frame} {meth : Method} {c : Code} {D : va_G} {A : Nat → Prop} {Q : State → Prop} (q : wLay) {b N : Nat} {xs : Nat → Int32} (hC : gC p s m args meth c cL_law 9 RL wsL_law D (wTy q) A) (hX : va_X b N xs s s.heap ∧ b < s.heap.size ∧ ¬ A b) (hl9 : l.stackTraces = false) (hN : N ≤ 2048) {t k n : Nat} (ht : 4 * t + 4 ≤ N) (hk : k + 8 ≤ 663840) (hn : n + 48 ≤ 7104584) {σ : cSt} {μ : mSt} {f : Nat → Int64} {g : Nat → UInt64} {Δ : dSt} (hσ : cRel σ Δ) (hμ : mRel μ Δ) (x y z : Int32) (hx : xs (4 * t + 1) = x) (hy : xs (4 * t + 2) = y) (hz : xs (4 * t + 3) = z) (kk : ∀ (σ' : cSt) (μ' : mSt) (f' : Nat → Int64) (g' : Nat → UInt64) (Δ' : dSt), cRel σ' Δ' → mRel μ' Δ' → gG p l e room_1 s m args below meth c D A 9 (k + 8) (n + 48) Q (WC (LC q f' g' μ') σ') 2915 [(0, .ref b), (1, .ref (wx q)), (2, .ref (wm q)), (3, .ref (wo q)), (4, .ref (wd q)), (5, .int (nI (4 * t)))] []) : gG p l e room_1 s m args below meth c D A 9 k n Q (WC (LC q f g μ) σ) 1675 [(0, .ref b), (1, .ref (wx q)), (2, .ref (wm q)), (3, .ref (wo q)), (4, .ref (wd q)), (5, .int (nI (4 * t)))] [] := by
  have hM := gCm hC
  refine gAloadN (pc := 1675) hC dL_law_1675 rfl 1 rfl ?_
  refine gAloadN (pc := 1676) hC dL_law_1676 rfl 0 rfl ?_
  refine gIload (pc := 1677) hC dL_law_1677 5 rfl ?_
  refine gIconst (pc := 1679) hC (v := (nI 1)) dL_law_1679 (by decide +kernel) ?_
  refine gIadd (pc := 1680) hC (v := nI (4 * t + 1)) dL_law_1680 (nI_add _ _) ?_
  refine gSld (pc := 1681) hC (v := x) hX (4 * t + 1) rfl (by omega) hN hx dL_law_1681 ?_
  refine gAloadN (pc := 1682) hC dL_law_1682 rfl 0 rfl ?_
  refine gIload (pc := 1683) hC dL_law_1683 5 rfl ?_
  refine gIconst (pc := 1685) hC (v := (nI 2)) dL_law_1685 (by decide +kernel) ?_
  refine gIadd (pc := 1686) hC (v := nI (4 * t + 2)) dL_law_1686 (nI_add _ _) ?_
  refine gSld (pc := 1687) hC (v := y) hX (4 * t + 2) rfl (by omega) hN hy dL_law_1687 ?_
  refine gAloadN (pc := 1688) hC dL_law_1688 rfl 0 rfl ?_
  refine gIload (pc := 1689) hC dL_law_1689 5 rfl ?_
  refine gIconst (pc := 1691) hC (v := (nI 3)) dL_law_1691 (by decide +kernel) ?_
  refine gIadd (pc := 1692) hC (v := nI (4 * t + 3)) dL_law_1692 (nI_add _ _) ?_
  refine gSld (pc := 1693) hC (v := z) hX (4 * t + 3) rfl (by omega) hN hz dL_law_1693 ?_
  refine gI2c (pc := 1694) hC dL_law_1694 rfl ?_
  refine gAloadN (pc := 1695) hC dL_law_1695 rfl 3 rfl ?_
  obtain ⟨K, hK⟩ : ∃ K : Nat, K = kk3 (okR x ∧ okR y) (okS ((z.toUInt32 % 65536).toInt32)) ((Δ.2.1 (rI x)) = (Δ.2.1 (rI y))) := ⟨_, rfl⟩
  have hKn : ¬ K = 0 → ¬ nI K = 0 := by rw [hK]; exact kk3_n
  refine gSW (pc := 1696) (rest := []) hC hl9 (c_L_combine l D q σ μ f g Δ x y ((z.toUInt32 % 65536).toInt32) hσ) (vx_cwSW 5 hC.2.2.2.2.1 gL_law_L_combine rfl rfl rfl (by decide +kernel) ⟨Nat.le_of_ble_eq_true rfl, Nat.le_of_ble_eq_true rfl⟩) rfl rfl (Nat.le_of_ble_eq_true rfl) dL_law_1696 ⟨Nat.le_trans (Nat.add_le_add_left (by decide) _) hk, Nat.le_trans (Nat.add_le_add_left (by decide) _) hn⟩ (fun v w1 hp => ?_)
  have hp : wPost q g μ Δ (dRow Δ (rI x) (Δ.2.1 (rI x)) (cmb ((z.toUInt32 % 65536).toInt32) (Δ.2.2 (rI x)) (Δ.2.2 (rI y)))) K (fun t : Int64 => ∃ v : Int32, t = v.toInt64 ∧ (fun b => b = nI (cz (cmb ((z.toUInt32 % 65536).toInt32) (Δ.2.2 (rI x)) (Δ.2.2 (rI y))) (Δ.2.1 (rI x)))) v) v w1 := by rw [hK]; exact hp
  obtain ⟨rfl, σ1, f1, rfl, h1⟩ := hp
  refine gStk (st' := [.int (nI K)]) (pc' := 1699) rfl rfl ?_
  refine gIstore (pc := 1699) hC (lv' := [(6, .int (nI K)), (0, .ref b), (1, .ref (wx q)), (2, .ref (wm q)), (3, .ref (wo q)), (4, .ref (wd q)), (5, .int (nI (4 * t)))]) dL_law_1699 (by decide) rfl ?_
  refine gAloadN (pc := 1701) hC dL_law_1701 rfl 3 rfl ?_
  refine gAloadN (pc := 1702) hC dL_law_1702 rfl 1 rfl ?_
  refine gIload (pc := 1703) hC dL_law_1703 6 rfl ?_
  refine gIconst (pc := 1705) hC (v := (nI 1)) dL_law_1705 (by decide +kernel) ?_
  refine gIadd (pc := 1706) hC (v := nI (4 * t + 1)) dL_law_1706 (nI_add _ _) ?_
  refine gSld (pc := 1707) hC (v := x) hX (4 * t + 1) rfl (by omega) hN hx dL_law_1707 ?_
  refine gAloadN (pc := 1708) hC dL_law_1708 rfl 1 rfl ?_
  refine gIload (pc := 1709) hC dL_law_1709 6 rfl ?_
  refine gIconst (pc := 1711) hC (v := (nI 2)) dL_law_1711 (by decide +kernel) ?_
  refine gIadd (pc := 1712) hC (v := nI (4 * t + 2)) dL_law_1712 (nI_add _ _) ?_
  refine gSld (pc := 1713) hC (v := y) hX (4 * t + 2) rfl (by omega) hN hy dL_law_1713 ?_
  refine gAloadN (pc := 1714) hC dL_law_1714 rfl 1 rfl ?_
  refine gIload (pc := 1715) hC dL_law_1715 6 rfl ?_
  refine gIconst (pc := 1717) hC (v := (nI 3)) dL_law_1717 (by decide +kernel) ?_
  refine gIadd (pc := 1718) hC (v := nI (4 * t + 3)) dL_law_1718 (nI_add _ _) ?_
  refine gSld (pc := 1719) hC (v := z) hX (4 * t + 3) rfl (by omega) hN hz dL_law_1719 ?_
  refine gI2c (pc := 1720) hC dL_law_1720 rfl ?_
  refine gToM ?_
  refine gV (pc := 1721) (rest := []) (ci := 2) (q0 := 0) hM (c_X2_combine l D (LM q f1 g σ1) μ Δ x y ((z.toUInt32 % 65536).toInt32) hμ) rfl rfl (cwV 3 hC.2.2.2.2.1 gL_law_X2_combine rfl rfl rfl (by decide +kernel) ⟨Nat.le_of_ble_eq_true rfl, Nat.le_of_ble_eq_true rfl⟩) rfl rfl (Nat.le_of_ble_eq_true rfl) dL_law_1721 ⟨Nat.le_trans (show k + 3 + 0 ≤ k + 8 by omega) hk, Nat.le_trans (show n + 18 + 0 ≤ n + 48 by omega) hn⟩ (fun v w1 hp => ?_)
  have hp : mPost (LM q f1 g σ1) Δ (dRow Δ (rI x) (Δ.2.1 (rI x)) (cmb ((z.toUInt32 % 65536).toInt32) (Δ.2.2 (rI x)) (Δ.2.2 (rI y)))) K (fun b => b = nI (cz (cmb ((z.toUInt32 % 65536).toInt32) (Δ.2.2 (rI x)) (Δ.2.2 (rI y))) (Δ.2.1 (rI x)))) v w1 := by rw [hK]; exact hp
  obtain ⟨b1, rfl, μ1, rfl, hmt, h2⟩ := hp
  refine gStk (st' := [.int b1]) (pc' := 1724) rfl rfl ?_
  have hj := wJoin h1 h2
  refine gIstore (pc := 1724) hM (lv' := [(7, .int b1), (6, .int (nI K)), (0, .ref b), (1, .ref (wx q)), (2, .ref (wm q)), (3, .ref (wo q)), (4, .ref (wd q)), (5, .int (nI (4 * t)))]) dL_law_1724 (by decide) rfl ?_
  refine gAloadN (pc := 1726) hM dL_law_1726 rfl 4 rfl ?_
  refine gV (pc := 1727) (rest := []) (ci := 2) (q0 := 0) hM (c_X2_thrown l D (LM q f1 g σ1) μ1) rfl rfl (cwV 0 hC.2.2.2.2.1 gL_law_X2_thrown rfl rfl rfl (by decide +kernel) ⟨Nat.le_of_ble_eq_true rfl, Nat.le_of_ble_eq_true rfl⟩) rfl rfl (Nat.le_of_ble_eq_true rfl) dL_law_1727 ⟨Nat.le_trans (show k + 3 + 0 ≤ k + 8 by omega) hk, Nat.le_trans (show n + 18 + 0 ≤ n + 48 by omega) hn⟩ (fun v w1 hp => ?_)
  obtain ⟨rfl, rfl⟩ := hp
  refine gStk (st' := [.int (mt μ1)]) (pc' := 1730) rfl rfl ?_
  refine gIload (pc := 1730) hM dL_law_1730 1 rfl ?_
  refine gIcmp_eq (tgt := 1737) (pc := 1732) hM dL_law_1732 (by decide) (fun _ => ?_) (fun h => absurd hmt h)
  rcases hj with ⟨hK0, ⟨hcv, hσ1⟩, hvl, hμ1⟩ | ⟨hK1, hσ1, hμ1⟩
  · skip
    refine gIload (pc := 1737) hM dL_law_1737 1 rfl ?_
    refine gIf_ne (tgt := 1754) (pc := 1739) hM dL_law_1739 (by decide) (fun h => absurd (by rw [hK0]; rfl) h) (fun _ => ?_)
    obtain ⟨v0, hv0, hcv⟩ := hcv
    have hvb : v0 = b1 := hcv.trans hvl.symm
    refine gAloadN (pc := 1742) hM dL_law_1742 rfl 5 rfl ?_
    refine gIconst (pc := 1743) hM (v := (nI 0)) dL_law_1743 (by decide +kernel) ?_
    refine gLald (pc := 1744) hM 0 rfl (by decide) (by decide) 9 3 rfl rfl rfl dL_law_1744 ?_
    refine gIload (pc := 1745) hM dL_law_1745 0 rfl ?_
    refine gI2l (pc := 1747) hM dL_law_1747 rfl ?_
    refine gLcmp (v := nI 0) (pc := 1748) hM dL_law_1748 (by rw [hv0, hvb]; exact lg_cmp_self _) ?_
    refine gIf_eq (tgt := 1754) (pc := 1749) hM dL_law_1749 (by decide) (fun _ => ?_) (fun h => absurd rfl h)
    refine gGoto (pc := 1754) hM (tgt := 2915) dL_law_1754 (by decide) ?_
    refine gToC ?_
    refine gLoc (lv' := [(0, .ref b), (1, .ref (wx q)), (2, .ref (wm q)), (3, .ref (wo q)), (4, .ref (wd q)), (5, .int (nI (4 * t)))]) [2, 3, 4, 5, 6, 7] rfl ?_
    exact gWid (show k + 3 + 0 + 0 ≤ k + 8 by omega) (show n + 18 + 0 + 0 ≤ n + 48 by omega) (kk σ1 μ1 f1 g (dRow Δ (rI x) (Δ.2.1 (rI x)) (cmb ((z.toUInt32 % 65536).toInt32) (Δ.2.2 (rI x)) (Δ.2.2 (rI y)))) hσ1 hμ1)
  · skip
    refine gIload (pc := 1737) hM dL_law_1737 1 rfl ?_
    refine gIf_ne (tgt := 1754) (pc := 1739) hM dL_law_1739 (by decide) (fun _ => ?_) (fun h => absurd h (hKn hK1))
    refine gGoto (pc := 1754) hM (tgt := 2915) dL_law_1754 (by decide) ?_
    refine gToC ?_
    refine gLoc (lv' := [(0, .ref b), (1, .ref (wx q)), (2, .ref (wm q)), (3, .ref (wo q)), (4, .ref (wd q)), (5, .int (nI (4 * t)))]) [2, 3, 4, 5, 6, 7] rfl ?_
    exact gWid (show k + 3 + 0 + 0 ≤ k + 8 by omega) (show n + 18 + 0 + 0 ≤ n + 48 by omega) (kk σ1 μ1 f1 g (Δ) hσ1 hμ1)

set_option maxRecDepth 100000 in
set_option maxHeartbeats 4000000 in
theorem lk_23 {p : Program} {l : Launch} {e : Env} {s : State} {m : MethodId} {args : Array Value} {below : List Frame} {meth : Method} {c : Code} {D : va_G} {A : Nat → Prop} {Q : State → Prop} (q : wLay) {b N : Nat} {xs : Nat → Int32} (hC : gC p s m args meth c cL_law 9 RL wsL_law D (wTy q) A) (hX : va_X b N xs s s.heap ∧ b < s.heap.size ∧ ¬ A b) (hl9 : l.stackTraces = false) (hN : N ≤ 2048) {t k n : Nat} (ht : 4 * t + 4 ≤ N) (hk : k + 8 ≤ 663840) (hn : n + 48 ≤ 7104584) {σ : cSt} {μ : mSt} {f : Nat → Int64} {g : Nat → UInt64} {Δ : dSt} (hσ : cRel σ Δ) (hμ : mRel μ Δ) (x y z : Int32) (hx : xs (4 * t + 1) = x) (hy : xs (4 * t + 2) = y) (hz : xs (4 * t + 3) = z) (kk : ∀ (σ' : cSt) (μ' : mSt) (f' : Nat → Int64) (g' : Nat → UInt64) (Δ' : dSt), cRel σ' Δ' → mRel μ' Δ' → gG p l e room_1 s m args below meth c D A 9 (k + 8) (n + 48) Q (WC (LC q f' g' μ') σ') 2915 [(0, .ref b), (1, .ref (wx q)), (2, .ref (wm q)), (3, .ref (wo q)), (4, .ref (wd q)), (5, .int (nI (4 * t)))] []) : gG p l e room_1 s m args below meth c D A 9 k n Q (WC (LC q f g μ) σ) 1757 [(0, .ref b), (1, .ref (wx q)), (2, .ref (wm q)), (3, .ref (wo q)), (4, .ref (wd q)), (5, .int (nI (4 * t)))] [] := by
  have hM := gCm hC
  refine gAloadN (pc := 1757) hC dL_law_1757 rfl 1 rfl ?_
  refine gAloadN (pc := 1758) hC dL_law_1758 rfl 0 rfl ?_
  refine gIload (pc := 1759) hC dL_law_1759 5 rfl ?_
  refine gIconst (pc := 1761) hC (v := (nI 1)) dL_law_1761 (by decide +kernel) ?_
  refine gIadd (pc := 1762) hC (v := nI (4 * t + 1)) dL_law_1762 (nI_add _ _) ?_
  refine gSld (pc := 1763) hC (v := x) hX (4 * t + 1) rfl (by omega) hN hx dL_law_1763 ?_
  refine gAloadN (pc := 1764) hC dL_law_1764 rfl 0 rfl ?_
  refine gIload (pc := 1765) hC dL_law_1765 5 rfl ?_
  refine gIconst (pc := 1767) hC (v := (nI 2)) dL_law_1767 (by decide +kernel) ?_
  refine gIadd (pc := 1768) hC (v := nI (4 * t + 2)) dL_law_1768 (nI_add _ _) ?_
  refine gSld (pc := 1769) hC (v := y) hX (4 * t + 2) rfl (by omega) hN hy dL_law_1769 ?_
  refine gAloadN (pc := 1770) hC dL_law_1770 rfl 3 rfl ?_
  obtain ⟨K, hK⟩ : ∃ K : Nat, K = kk2 (okR x) (okNum y) := ⟨_, rfl⟩
  have hKn : ¬ K = 0 → ¬ nI K = 0 := by rw [hK]; exact kk2_n
  refine gSW (pc := 1771) (rest := []) hC hl9 (c_L_multiply l D q σ μ f g Δ x y hσ) (vx_cwSW 4 hC.2.2.2.2.1 gL_law_L_multiply rfl rfl rfl (by decide +kernel) ⟨Nat.le_of_ble_eq_true rfl, Nat.le_of_ble_eq_true rfl⟩) rfl rfl (Nat.le_of_ble_eq_true rfl) dL_law_1771 ⟨Nat.le_trans (Nat.add_le_add_left (by decide) _) hk, Nat.le_trans (Nat.add_le_add_left (by decide) _) hn⟩ (fun v w1 hp => ?_)
  have hp : wPost q g μ Δ (dRow Δ (rI x) (Δ.2.1 (rI x)) (fun i => (Δ.2.2 (rI x)) i * nu y)) K (fun t : Int64 => ∃ v : Int32, t = v.toInt64 ∧ (fun b => b = nI (cz (fun i => (Δ.2.2 (rI x)) i * nu y) (Δ.2.1 (rI x)))) v) v w1 := by rw [hK]; exact hp
  obtain ⟨rfl, σ1, f1, rfl, h1⟩ := hp
  refine gStk (st' := [.int (nI K)]) (pc' := 1774) rfl rfl ?_
  refine gIstore (pc := 1774) hC (lv' := [(6, .int (nI K)), (0, .ref b), (1, .ref (wx q)), (2, .ref (wm q)), (3, .ref (wo q)), (4, .ref (wd q)), (5, .int (nI (4 * t)))]) dL_law_1774 (by decide) rfl ?_
  refine gAloadN (pc := 1776) hC dL_law_1776 rfl 3 rfl ?_
  refine gAloadN (pc := 1777) hC dL_law_1777 rfl 1 rfl ?_
  refine gIload (pc := 1778) hC dL_law_1778 6 rfl ?_
  refine gIconst (pc := 1780) hC (v := (nI 1)) dL_law_1780 (by decide +kernel) ?_
  refine gIadd (pc := 1781) hC (v := nI (4 * t + 1)) dL_law_1781 (nI_add _ _) ?_
  refine gSld (pc := 1782) hC (v := x) hX (4 * t + 1) rfl (by omega) hN hx dL_law_1782 ?_
  refine gAloadN (pc := 1783) hC dL_law_1783 rfl 1 rfl ?_
  refine gIload (pc := 1784) hC dL_law_1784 6 rfl ?_
  refine gIconst (pc := 1786) hC (v := (nI 2)) dL_law_1786 (by decide +kernel) ?_
  refine gIadd (pc := 1787) hC (v := nI (4 * t + 2)) dL_law_1787 (nI_add _ _) ?_
  refine gSld (pc := 1788) hC (v := y) hX (4 * t + 2) rfl (by omega) hN hy dL_law_1788 ?_
  refine gToM ?_
  refine gV (pc := 1789) (rest := []) (ci := 2) (q0 := 0) hM (c_X2_multiply l D (LM q f1 g σ1) μ Δ x y hμ) rfl rfl (cwV 2 hC.2.2.2.2.1 gL_law_X2_multiply rfl rfl rfl (by decide +kernel) ⟨Nat.le_of_ble_eq_true rfl, Nat.le_of_ble_eq_true rfl⟩) rfl rfl (Nat.le_of_ble_eq_true rfl) dL_law_1789 ⟨Nat.le_trans (show k + 2 + 0 ≤ k + 8 by omega) hk, Nat.le_trans (show n + 12 + 0 ≤ n + 48 by omega) hn⟩ (fun v w1 hp => ?_)
  have hp : mPost (LM q f1 g σ1) Δ (dRow Δ (rI x) (Δ.2.1 (rI x)) (fun i => (Δ.2.2 (rI x)) i * nu y)) K (fun b => b = nI (cz (fun i => (Δ.2.2 (rI x)) i * nu y) (Δ.2.1 (rI x)))) v w1 := by rw [hK]; exact hp
  obtain ⟨b1, rfl, μ1, rfl, hmt, h2⟩ := hp
  refine gStk (st' := [.int b1]) (pc' := 1792) rfl rfl ?_
  have hj := wJoin h1 h2
  refine gIstore (pc := 1792) hM (lv' := [(7, .int b1), (6, .int (nI K)), (0, .ref b), (1, .ref (wx q)), (2, .ref (wm q)), (3, .ref (wo q)), (4, .ref (wd q)), (5, .int (nI (4 * t)))]) dL_law_1792 (by decide) rfl ?_
  refine gAloadN (pc := 1794) hM dL_law_1794 rfl 4 rfl ?_
  refine gV (pc := 1795) (rest := []) (ci := 2) (q0 := 0) hM (c_X2_thrown l D (LM q f1 g σ1) μ1) rfl rfl (cwV 0 hC.2.2.2.2.1 gL_law_X2_thrown rfl rfl rfl (by decide +kernel) ⟨Nat.le_of_ble_eq_true rfl, Nat.le_of_ble_eq_true rfl⟩) rfl rfl (Nat.le_of_ble_eq_true rfl) dL_law_1795 ⟨Nat.le_trans (show k + 2 + 0 ≤ k + 8 by omega) hk, Nat.le_trans (show n + 12 + 0 ≤ n + 48 by omega) hn⟩ (fun v w1 hp => ?_)
  obtain ⟨rfl, rfl⟩ := hp
  refine gStk (st' := [.int (mt μ1)]) (pc' := 1798) rfl rfl ?_
  refine gIload (pc := 1798) hM dL_law_1798 1 rfl ?_
  refine gIcmp_eq (tgt := 1805) (pc := 1800) hM dL_law_1800 (by decide) (fun _ => ?_) (fun h => absurd hmt h)
  rcases hj with ⟨hK0, ⟨hcv, hσ1⟩, hvl, hμ1⟩ | ⟨hK1, hσ1, hμ1⟩
  · skip
    refine gIload (pc := 1805) hM dL_law_1805 1 rfl ?_
    refine gIf_ne (tgt := 1822) (pc := 1807) hM dL_law_1807 (by decide) (fun h => absurd (by rw [hK0]; rfl) h) (fun _ => ?_)
    obtain ⟨v0, hv0, hcv⟩ := hcv
    have hvb : v0 = b1 := hcv.trans hvl.symm
    refine gAloadN (pc := 1810) hM dL_law_1810 rfl 5 rfl ?_
    refine gIconst (pc := 1811) hM (v := (nI 0)) dL_law_1811 (by decide +kernel) ?_
    refine gLald (pc := 1812) hM 0 rfl (by decide) (by decide) 9 3 rfl rfl rfl dL_law_1812 ?_
    refine gIload (pc := 1813) hM dL_law_1813 0 rfl ?_
    refine gI2l (pc := 1815) hM dL_law_1815 rfl ?_
    refine gLcmp (v := nI 0) (pc := 1816) hM dL_law_1816 (by rw [hv0, hvb]; exact lg_cmp_self _) ?_
    refine gIf_eq (tgt := 1822) (pc := 1817) hM dL_law_1817 (by decide) (fun _ => ?_) (fun h => absurd rfl h)
    refine gGoto (pc := 1822) hM (tgt := 2915) dL_law_1822 (by decide) ?_
    refine gToC ?_
    refine gLoc (lv' := [(0, .ref b), (1, .ref (wx q)), (2, .ref (wm q)), (3, .ref (wo q)), (4, .ref (wd q)), (5, .int (nI (4 * t)))]) [2, 3, 4, 5, 6, 7] rfl ?_
    exact gWid (show k + 2 + 0 + 0 ≤ k + 8 by omega) (show n + 12 + 0 + 0 ≤ n + 48 by omega) (kk σ1 μ1 f1 g (dRow Δ (rI x) (Δ.2.1 (rI x)) (fun i => (Δ.2.2 (rI x)) i * nu y)) hσ1 hμ1)
  · skip
    refine gIload (pc := 1805) hM dL_law_1805 1 rfl ?_
    refine gIf_ne (tgt := 1822) (pc := 1807) hM dL_law_1807 (by decide) (fun _ => ?_) (fun h => absurd h (hKn hK1))
    refine gGoto (pc := 1822) hM (tgt := 2915) dL_law_1822 (by decide) ?_
    refine gToC ?_
    refine gLoc (lv' := [(0, .ref b), (1, .ref (wx q)), (2, .ref (wm q)), (3, .ref (wo q)), (4, .ref (wd q)), (5, .int (nI (4 * t)))]) [2, 3, 4, 5, 6, 7] rfl ?_
    exact gWid (show k + 2 + 0 + 0 ≤ k + 8 by omega) (show n + 12 + 0 + 0 ≤ n + 48 by omega) (kk σ1 μ1 f1 g (Δ) hσ1 hμ1)

set_option maxRecDepth 100000 in
set_option maxHeartbeats 4000000 in
theorem lk_24 {p : Program} {l : Launch} {e : Env} {s : State} {m : MethodId} {args : Array Value} {below : List Frame} {meth : Method} {c : Code} {D : va_G} {A : Nat → Prop} {Q : State → Prop} (q : wLay) {b N : Nat} {xs : Nat → Int32} (hC : gC p s m args meth c cL_law 9 RL wsL_law D (wTy q) A) (hX : va_X b N xs s s.heap ∧ b < s.heap.size ∧ ¬ A b) (hl9 : l.stackTraces = false) (hN : N ≤ 2048) {t k n : Nat} (ht : 4 * t + 4 ≤ N) (hk : k + 8 ≤ 663840) (hn : n + 48 ≤ 7104584) {σ : cSt} {μ : mSt} {f : Nat → Int64} {g : Nat → UInt64} {Δ : dSt} (hσ : cRel σ Δ) (hμ : mRel μ Δ) (x y z : Int32) (hx : xs (4 * t + 1) = x) (hy : xs (4 * t + 2) = y) (hz : xs (4 * t + 3) = z) (kk : ∀ (σ' : cSt) (μ' : mSt) (f' : Nat → Int64) (g' : Nat → UInt64) (Δ' : dSt), cRel σ' Δ' → mRel μ' Δ' → gG p l e room_1 s m args below meth c D A 9 (k + 8) (n + 48) Q (WC (LC q f' g' μ') σ') 2915 [(0, .ref b), (1, .ref (wx q)), (2, .ref (wm q)), (3, .ref (wo q)), (4, .ref (wd q)), (5, .int (nI (4 * t)))] []) : gG p l e room_1 s m args below meth c D A 9 k n Q (WC (LC q f g μ) σ) 1825 [(0, .ref b), (1, .ref (wx q)), (2, .ref (wm q)), (3, .ref (wo q)), (4, .ref (wd q)), (5, .int (nI (4 * t)))] [] := by
  have hM := gCm hC
  refine gAloadN (pc := 1825) hC dL_law_1825 rfl 1 rfl ?_
  refine gAloadN (pc := 1826) hC dL_law_1826 rfl 0 rfl ?_
  refine gIload (pc := 1827) hC dL_law_1827 5 rfl ?_
  refine gIconst (pc := 1829) hC (v := (nI 1)) dL_law_1829 (by decide +kernel) ?_
  refine gIadd (pc := 1830) hC (v := nI (4 * t + 1)) dL_law_1830 (nI_add _ _) ?_
  refine gSld (pc := 1831) hC (v := x) hX (4 * t + 1) rfl (by omega) hN hx dL_law_1831 ?_
  refine gAloadN (pc := 1832) hC dL_law_1832 rfl 0 rfl ?_
  refine gIload (pc := 1833) hC dL_law_1833 5 rfl ?_
  refine gIconst (pc := 1835) hC (v := (nI 2)) dL_law_1835 (by decide +kernel) ?_
  refine gIadd (pc := 1836) hC (v := nI (4 * t + 2)) dL_law_1836 (nI_add _ _) ?_
  refine gSld (pc := 1837) hC (v := y) hX (4 * t + 2) rfl (by omega) hN hy dL_law_1837 ?_
  refine gAloadN (pc := 1838) hC dL_law_1838 rfl 3 rfl ?_
  obtain ⟨K, hK⟩ : ∃ K : Nat, K = kk2 (okR x) (okD y ∧ ¬ nI (Δ.2.1 (rI x)) < y) := ⟨_, rfl⟩
  have hKn : ¬ K = 0 → ¬ nI K = 0 := by rw [hK]; exact kk2_n
  refine gSW (pc := 1839) (rest := []) hC hl9 (c_L_repeat l D q σ μ f g Δ x y hσ) (vx_cwSW 4 hC.2.2.2.2.1 gL_law_L_repeat rfl rfl rfl (by decide +kernel) ⟨Nat.le_of_ble_eq_true rfl, Nat.le_of_ble_eq_true rfl⟩) rfl rfl (Nat.le_of_ble_eq_true rfl) dL_law_1839 ⟨Nat.le_trans (Nat.add_le_add_left (by decide) _) hk, Nat.le_trans (Nat.add_le_add_left (by decide) _) hn⟩ (fun v w1 hp => ?_)
  have hp : wPost q g μ Δ (dRow Δ (rI x) (Δ.2.1 (rI x)) (fun i => (Δ.2.2 (rI x)) (i % (rI y)))) K (fun t : Int64 => ∃ v : Int32, t = v.toInt64 ∧ (fun b => b = nI (cd (Δ.2.2 (rI x)) (fun i => (Δ.2.2 (rI x)) (i % (rI y))) (Δ.2.1 (rI x)))) v) v w1 := by rw [hK]; exact hp
  obtain ⟨rfl, σ1, f1, rfl, h1⟩ := hp
  refine gStk (st' := [.int (nI K)]) (pc' := 1842) rfl rfl ?_
  refine gIstore (pc := 1842) hC (lv' := [(6, .int (nI K)), (0, .ref b), (1, .ref (wx q)), (2, .ref (wm q)), (3, .ref (wo q)), (4, .ref (wd q)), (5, .int (nI (4 * t)))]) dL_law_1842 (by decide) rfl ?_
  refine gAloadN (pc := 1844) hC dL_law_1844 rfl 3 rfl ?_
  refine gAloadN (pc := 1845) hC dL_law_1845 rfl 1 rfl ?_
  refine gIload (pc := 1846) hC dL_law_1846 6 rfl ?_
  refine gIconst (pc := 1848) hC (v := (nI 1)) dL_law_1848 (by decide +kernel) ?_
  refine gIadd (pc := 1849) hC (v := nI (4 * t + 1)) dL_law_1849 (nI_add _ _) ?_
  refine gSld (pc := 1850) hC (v := x) hX (4 * t + 1) rfl (by omega) hN hx dL_law_1850 ?_
  refine gAloadN (pc := 1851) hC dL_law_1851 rfl 1 rfl ?_
  refine gIload (pc := 1852) hC dL_law_1852 6 rfl ?_
  refine gIconst (pc := 1854) hC (v := (nI 2)) dL_law_1854 (by decide +kernel) ?_
  refine gIadd (pc := 1855) hC (v := nI (4 * t + 2)) dL_law_1855 (nI_add _ _) ?_
  refine gSld (pc := 1856) hC (v := y) hX (4 * t + 2) rfl (by omega) hN hy dL_law_1856 ?_
  refine gToM ?_
  refine gV (pc := 1857) (rest := []) (ci := 2) (q0 := 0) hM (c_X2_repeat l D (LM q f1 g σ1) μ Δ x y hμ) rfl rfl (cwV 2 hC.2.2.2.2.1 gL_law_X2_repeat rfl rfl rfl (by decide +kernel) ⟨Nat.le_of_ble_eq_true rfl, Nat.le_of_ble_eq_true rfl⟩) rfl rfl (Nat.le_of_ble_eq_true rfl) dL_law_1857 ⟨Nat.le_trans (show k + 2 + 0 ≤ k + 8 by omega) hk, Nat.le_trans (show n + 12 + 0 ≤ n + 48 by omega) hn⟩ (fun v w1 hp => ?_)
  have hp : mPost (LM q f1 g σ1) Δ (dRow Δ (rI x) (Δ.2.1 (rI x)) (fun i => (Δ.2.2 (rI x)) (i % (rI y)))) K (fun b => b = nI (cd (Δ.2.2 (rI x)) (fun i => (Δ.2.2 (rI x)) (i % (rI y))) (Δ.2.1 (rI x)))) v w1 := by rw [hK]; exact hp
  obtain ⟨b1, rfl, μ1, rfl, hmt, h2⟩ := hp
  refine gStk (st' := [.int b1]) (pc' := 1860) rfl rfl ?_
  have hj := wJoin h1 h2
  refine gIstore (pc := 1860) hM (lv' := [(7, .int b1), (6, .int (nI K)), (0, .ref b), (1, .ref (wx q)), (2, .ref (wm q)), (3, .ref (wo q)), (4, .ref (wd q)), (5, .int (nI (4 * t)))]) dL_law_1860 (by decide) rfl ?_
  refine gAloadN (pc := 1862) hM dL_law_1862 rfl 4 rfl ?_
  refine gV (pc := 1863) (rest := []) (ci := 2) (q0 := 0) hM (c_X2_thrown l D (LM q f1 g σ1) μ1) rfl rfl (cwV 0 hC.2.2.2.2.1 gL_law_X2_thrown rfl rfl rfl (by decide +kernel) ⟨Nat.le_of_ble_eq_true rfl, Nat.le_of_ble_eq_true rfl⟩) rfl rfl (Nat.le_of_ble_eq_true rfl) dL_law_1863 ⟨Nat.le_trans (show k + 2 + 0 ≤ k + 8 by omega) hk, Nat.le_trans (show n + 12 + 0 ≤ n + 48 by omega) hn⟩ (fun v w1 hp => ?_)
  obtain ⟨rfl, rfl⟩ := hp
  refine gStk (st' := [.int (mt μ1)]) (pc' := 1866) rfl rfl ?_
  refine gIload (pc := 1866) hM dL_law_1866 1 rfl ?_
  refine gIcmp_eq (tgt := 1873) (pc := 1868) hM dL_law_1868 (by decide) (fun _ => ?_) (fun h => absurd hmt h)
  rcases hj with ⟨hK0, ⟨hcv, hσ1⟩, hvl, hμ1⟩ | ⟨hK1, hσ1, hμ1⟩
  · skip
    refine gIload (pc := 1873) hM dL_law_1873 1 rfl ?_
    refine gIf_ne (tgt := 1890) (pc := 1875) hM dL_law_1875 (by decide) (fun h => absurd (by rw [hK0]; rfl) h) (fun _ => ?_)
    obtain ⟨v0, hv0, hcv⟩ := hcv
    have hvb : v0 = b1 := hcv.trans hvl.symm
    refine gAloadN (pc := 1878) hM dL_law_1878 rfl 5 rfl ?_
    refine gIconst (pc := 1879) hM (v := (nI 0)) dL_law_1879 (by decide +kernel) ?_
    refine gLald (pc := 1880) hM 0 rfl (by decide) (by decide) 9 3 rfl rfl rfl dL_law_1880 ?_
    refine gIload (pc := 1881) hM dL_law_1881 0 rfl ?_
    refine gI2l (pc := 1883) hM dL_law_1883 rfl ?_
    refine gLcmp (v := nI 0) (pc := 1884) hM dL_law_1884 (by rw [hv0, hvb]; exact lg_cmp_self _) ?_
    refine gIf_eq (tgt := 1890) (pc := 1885) hM dL_law_1885 (by decide) (fun _ => ?_) (fun h => absurd rfl h)
    refine gGoto (pc := 1890) hM (tgt := 2915) dL_law_1890 (by decide) ?_
    refine gToC ?_
    refine gLoc (lv' := [(0, .ref b), (1, .ref (wx q)), (2, .ref (wm q)), (3, .ref (wo q)), (4, .ref (wd q)), (5, .int (nI (4 * t)))]) [2, 3, 4, 5, 6, 7] rfl ?_
    exact gWid (show k + 2 + 0 + 0 ≤ k + 8 by omega) (show n + 12 + 0 + 0 ≤ n + 48 by omega) (kk σ1 μ1 f1 g (dRow Δ (rI x) (Δ.2.1 (rI x)) (fun i => (Δ.2.2 (rI x)) (i % (rI y)))) hσ1 hμ1)
  · skip
    refine gIload (pc := 1873) hM dL_law_1873 1 rfl ?_
    refine gIf_ne (tgt := 1890) (pc := 1875) hM dL_law_1875 (by decide) (fun _ => ?_) (fun h => absurd h (hKn hK1))
    refine gGoto (pc := 1890) hM (tgt := 2915) dL_law_1890 (by decide) ?_
    refine gToC ?_
    refine gLoc (lv' := [(0, .ref b), (1, .ref (wx q)), (2, .ref (wm q)), (3, .ref (wo q)), (4, .ref (wd q)), (5, .int (nI (4 * t)))]) [2, 3, 4, 5, 6, 7] rfl ?_
    exact gWid (show k + 2 + 0 + 0 ≤ k + 8 by omega) (show n + 12 + 0 + 0 ≤ n + 48 by omega) (kk σ1 μ1 f1 g (Δ) hσ1 hμ1)

set_option maxRecDepth 100000 in
set_option maxHeartbeats 4000000 in
theorem lk_25 {p : Program} {l : Launch} {e : Env} {s : State} {m : MethodId} {args : Array Value} {below : List Frame} {meth : Method} {c : Code} {D : va_G} {A : Nat → Prop} {Q : State → Prop} (q : wLay) {b N : Nat} {xs : Nat → Int32} (hC : gC p s m args meth c cL_law 9 RL wsL_law D (wTy q) A) (hX : va_X b N xs s s.heap ∧ b < s.heap.size ∧ ¬ A b) (hl9 : l.stackTraces = false) (hN : N ≤ 2048) {t k n : Nat} (ht : 4 * t + 4 ≤ N) (hk : k + 8 ≤ 663840) (hn : n + 48 ≤ 7104584) {σ : cSt} {μ : mSt} {f : Nat → Int64} {g : Nat → UInt64} {Δ : dSt} (hσ : cRel σ Δ) (hμ : mRel μ Δ) (x y z : Int32) (hx : xs (4 * t + 1) = x) (hy : xs (4 * t + 2) = y) (hz : xs (4 * t + 3) = z) (kk : ∀ (σ' : cSt) (μ' : mSt) (f' : Nat → Int64) (g' : Nat → UInt64) (Δ' : dSt), cRel σ' Δ' → mRel μ' Δ' → gG p l e room_1 s m args below meth c D A 9 (k + 8) (n + 48) Q (WC (LC q f' g' μ') σ') 2915 [(0, .ref b), (1, .ref (wx q)), (2, .ref (wm q)), (3, .ref (wo q)), (4, .ref (wd q)), (5, .int (nI (4 * t)))] []) : gG p l e room_1 s m args below meth c D A 9 k n Q (WC (LC q f g μ) σ) 1893 [(0, .ref b), (1, .ref (wx q)), (2, .ref (wm q)), (3, .ref (wo q)), (4, .ref (wd q)), (5, .int (nI (4 * t)))] [] := by
  have hM := gCm hC
  refine gAloadN (pc := 1893) hC dL_law_1893 rfl 1 rfl ?_
  refine gAloadN (pc := 1894) hC dL_law_1894 rfl 0 rfl ?_
  refine gIload (pc := 1895) hC dL_law_1895 5 rfl ?_
  refine gIconst (pc := 1897) hC (v := (nI 1)) dL_law_1897 (by decide +kernel) ?_
  refine gIadd (pc := 1898) hC (v := nI (4 * t + 1)) dL_law_1898 (nI_add _ _) ?_
  refine gSld (pc := 1899) hC (v := x) hX (4 * t + 1) rfl (by omega) hN hx dL_law_1899 ?_
  refine gAloadN (pc := 1900) hC dL_law_1900 rfl 3 rfl ?_
  obtain ⟨K, hK⟩ : ∃ K : Nat, K = kk1 (okR x) := ⟨_, rfl⟩
  have hKn : ¬ K = 0 → ¬ nI K = 0 := by rw [hK]; exact kk1_n
  refine gSW (pc := 1901) (rest := []) hC hl9 (c_L_own l D q σ μ f g Δ x hσ) (vx_cwSW 3 hC.2.2.2.2.1 gL_law_L_own rfl rfl rfl (by decide +kernel) ⟨Nat.le_of_ble_eq_true rfl, Nat.le_of_ble_eq_true rfl⟩) rfl rfl (Nat.le_of_ble_eq_true rfl) dL_law_1901 ⟨Nat.le_trans (Nat.add_le_add_left (by decide) _) hk, Nat.le_trans (Nat.add_le_add_left (by decide) _) hn⟩ (fun v w1 hp => ?_)
  have hp : wPost q g μ Δ (dRow Δ (rI x) (Δ.2.1 (rI x)) (ow (Δ.2.1 (rI x)) (un Δ.1 (Δ.2.1 (rI x))) (Δ.2.2 (rI x)))) K (fun t : Int64 => ∃ v : Int32, t = v.toInt64 ∧ (fun b => b = nI (cz (ow (Δ.2.1 (rI x)) (un Δ.1 (Δ.2.1 (rI x))) (Δ.2.2 (rI x))) (Δ.2.1 (rI x)))) v) v w1 := by rw [hK]; exact hp
  obtain ⟨rfl, σ1, f1, rfl, h1⟩ := hp
  refine gStk (st' := [.int (nI K)]) (pc' := 1904) rfl rfl ?_
  refine gIstore (pc := 1904) hC (lv' := [(6, .int (nI K)), (0, .ref b), (1, .ref (wx q)), (2, .ref (wm q)), (3, .ref (wo q)), (4, .ref (wd q)), (5, .int (nI (4 * t)))]) dL_law_1904 (by decide) rfl ?_
  refine gAloadN (pc := 1906) hC dL_law_1906 rfl 3 rfl ?_
  refine gAloadN (pc := 1907) hC dL_law_1907 rfl 1 rfl ?_
  refine gIload (pc := 1908) hC dL_law_1908 6 rfl ?_
  refine gIconst (pc := 1910) hC (v := (nI 1)) dL_law_1910 (by decide +kernel) ?_
  refine gIadd (pc := 1911) hC (v := nI (4 * t + 1)) dL_law_1911 (nI_add _ _) ?_
  refine gSld (pc := 1912) hC (v := x) hX (4 * t + 1) rfl (by omega) hN hx dL_law_1912 ?_
  refine gToM ?_
  refine gV (pc := 1913) (rest := []) (ci := 2) (q0 := 0) hM (c_X2_own l D (LM q f1 g σ1) μ Δ x hμ) rfl rfl (cwV 1 hC.2.2.2.2.1 gL_law_X2_own rfl rfl rfl (by decide +kernel) ⟨Nat.le_of_ble_eq_true rfl, Nat.le_of_ble_eq_true rfl⟩) rfl rfl (Nat.le_of_ble_eq_true rfl) dL_law_1913 ⟨Nat.le_trans (show k + 1 + 0 ≤ k + 8 by omega) hk, Nat.le_trans (show n + 6 + 0 ≤ n + 48 by omega) hn⟩ (fun v w1 hp => ?_)
  have hp : mPost (LM q f1 g σ1) Δ (dRow Δ (rI x) (Δ.2.1 (rI x)) (ow (Δ.2.1 (rI x)) (un Δ.1 (Δ.2.1 (rI x))) (Δ.2.2 (rI x)))) K (fun b => b = nI (cz (ow (Δ.2.1 (rI x)) (un Δ.1 (Δ.2.1 (rI x))) (Δ.2.2 (rI x))) (Δ.2.1 (rI x)))) v w1 := by rw [hK]; exact hp
  obtain ⟨b1, rfl, μ1, rfl, hmt, h2⟩ := hp
  refine gStk (st' := [.int b1]) (pc' := 1916) rfl rfl ?_
  have hj := wJoin h1 h2
  refine gIstore (pc := 1916) hM (lv' := [(7, .int b1), (6, .int (nI K)), (0, .ref b), (1, .ref (wx q)), (2, .ref (wm q)), (3, .ref (wo q)), (4, .ref (wd q)), (5, .int (nI (4 * t)))]) dL_law_1916 (by decide) rfl ?_
  refine gAloadN (pc := 1918) hM dL_law_1918 rfl 4 rfl ?_
  refine gV (pc := 1919) (rest := []) (ci := 2) (q0 := 0) hM (c_X2_thrown l D (LM q f1 g σ1) μ1) rfl rfl (cwV 0 hC.2.2.2.2.1 gL_law_X2_thrown rfl rfl rfl (by decide +kernel) ⟨Nat.le_of_ble_eq_true rfl, Nat.le_of_ble_eq_true rfl⟩) rfl rfl (Nat.le_of_ble_eq_true rfl) dL_law_1919 ⟨Nat.le_trans (show k + 1 + 0 ≤ k + 8 by omega) hk, Nat.le_trans (show n + 6 + 0 ≤ n + 48 by omega) hn⟩ (fun v w1 hp => ?_)
  obtain ⟨rfl, rfl⟩ := hp
  refine gStk (st' := [.int (mt μ1)]) (pc' := 1922) rfl rfl ?_
  refine gIload (pc := 1922) hM dL_law_1922 1 rfl ?_
  refine gIcmp_eq (tgt := 1929) (pc := 1924) hM dL_law_1924 (by decide) (fun _ => ?_) (fun h => absurd hmt h)
  rcases hj with ⟨hK0, ⟨hcv, hσ1⟩, hvl, hμ1⟩ | ⟨hK1, hσ1, hμ1⟩
  · skip
    refine gIload (pc := 1929) hM dL_law_1929 1 rfl ?_
    refine gIf_ne (tgt := 1946) (pc := 1931) hM dL_law_1931 (by decide) (fun h => absurd (by rw [hK0]; rfl) h) (fun _ => ?_)
    obtain ⟨v0, hv0, hcv⟩ := hcv
    have hvb : v0 = b1 := hcv.trans hvl.symm
    refine gAloadN (pc := 1934) hM dL_law_1934 rfl 5 rfl ?_
    refine gIconst (pc := 1935) hM (v := (nI 0)) dL_law_1935 (by decide +kernel) ?_
    refine gLald (pc := 1936) hM 0 rfl (by decide) (by decide) 9 3 rfl rfl rfl dL_law_1936 ?_
    refine gIload (pc := 1937) hM dL_law_1937 0 rfl ?_
    refine gI2l (pc := 1939) hM dL_law_1939 rfl ?_
    refine gLcmp (v := nI 0) (pc := 1940) hM dL_law_1940 (by rw [hv0, hvb]; exact lg_cmp_self _) ?_
    refine gIf_eq (tgt := 1946) (pc := 1941) hM dL_law_1941 (by decide) (fun _ => ?_) (fun h => absurd rfl h)
    refine gGoto (pc := 1946) hM (tgt := 2915) dL_law_1946 (by decide) ?_
    refine gToC ?_
    refine gLoc (lv' := [(0, .ref b), (1, .ref (wx q)), (2, .ref (wm q)), (3, .ref (wo q)), (4, .ref (wd q)), (5, .int (nI (4 * t)))]) [2, 3, 4, 5, 6, 7] rfl ?_
    exact gWid (show k + 1 + 0 + 0 ≤ k + 8 by omega) (show n + 6 + 0 + 0 ≤ n + 48 by omega) (kk σ1 μ1 f1 g (dRow Δ (rI x) (Δ.2.1 (rI x)) (ow (Δ.2.1 (rI x)) (un Δ.1 (Δ.2.1 (rI x))) (Δ.2.2 (rI x)))) hσ1 hμ1)
  · skip
    refine gIload (pc := 1929) hM dL_law_1929 1 rfl ?_
    refine gIf_ne (tgt := 1946) (pc := 1931) hM dL_law_1931 (by decide) (fun _ => ?_) (fun h => absurd h (hKn hK1))
    refine gGoto (pc := 1946) hM (tgt := 2915) dL_law_1946 (by decide) ?_
    refine gToC ?_
    refine gLoc (lv' := [(0, .ref b), (1, .ref (wx q)), (2, .ref (wm q)), (3, .ref (wo q)), (4, .ref (wd q)), (5, .int (nI (4 * t)))]) [2, 3, 4, 5, 6, 7] rfl ?_
    exact gWid (show k + 1 + 0 + 0 ≤ k + 8 by omega) (show n + 6 + 0 + 0 ≤ n + 48 by omega) (kk σ1 μ1 f1 g (Δ) hσ1 hμ1)

set_option maxRecDepth 100000 in
set_option maxHeartbeats 4000000 in
theorem lk_26 {p : Program} {l : Launch} {e : Env} {s : State} {m : MethodId} {args : Array Value} {below : List Frame} {meth : Method} {c : Code} {D : va_G} {A : Nat → Prop} {Q : State → Prop} (q : wLay) {b N : Nat} {xs : Nat → Int32} (hC : gC p s m args meth c cL_law 9 RL wsL_law D (wTy q) A) (hX : va_X b N xs s s.heap ∧ b < s.heap.size ∧ ¬ A b) (hl9 : l.stackTraces = false) (hN : N ≤ 2048) {t k n : Nat} (ht : 4 * t + 4 ≤ N) (hk : k + 8 ≤ 663840) (hn : n + 48 ≤ 7104584) {σ : cSt} {μ : mSt} {f : Nat → Int64} {g : Nat → UInt64} {Δ : dSt} (hσ : cRel σ Δ) (hμ : mRel μ Δ) (x y z : Int32) (hx : xs (4 * t + 1) = x) (hy : xs (4 * t + 2) = y) (hz : xs (4 * t + 3) = z) (kk : ∀ (σ' : cSt) (μ' : mSt) (f' : Nat → Int64) (g' : Nat → UInt64) (Δ' : dSt), cRel σ' Δ' → mRel μ' Δ' → gG p l e room_1 s m args below meth c D A 9 (k + 8) (n + 48) Q (WC (LC q f' g' μ') σ') 2915 [(0, .ref b), (1, .ref (wx q)), (2, .ref (wm q)), (3, .ref (wo q)), (4, .ref (wd q)), (5, .int (nI (4 * t)))] []) : gG p l e room_1 s m args below meth c D A 9 k n Q (WC (LC q f g μ) σ) 1949 [(0, .ref b), (1, .ref (wx q)), (2, .ref (wm q)), (3, .ref (wo q)), (4, .ref (wd q)), (5, .int (nI (4 * t)))] [] := by
  have hM := gCm hC
  refine gAloadN (pc := 1949) hC dL_law_1949 rfl 1 rfl ?_
  refine gAloadN (pc := 1950) hC dL_law_1950 rfl 0 rfl ?_
  refine gIload (pc := 1951) hC dL_law_1951 5 rfl ?_
  refine gIconst (pc := 1953) hC (v := (nI 1)) dL_law_1953 (by decide +kernel) ?_
  refine gIadd (pc := 1954) hC (v := nI (4 * t + 1)) dL_law_1954 (nI_add _ _) ?_
  refine gSld (pc := 1955) hC (v := x) hX (4 * t + 1) rfl (by omega) hN hx dL_law_1955 ?_
  refine gAloadN (pc := 1956) hC dL_law_1956 rfl 3 rfl ?_
  obtain ⟨K, hK⟩ : ∃ K : Nat, K = kk1 (okR x) := ⟨_, rfl⟩
  have hKn : ¬ K = 0 → ¬ nI K = 0 := by rw [hK]; exact kk1_n
  refine gSW (pc := 1957) (rest := []) hC hl9 (c_L_period l D q σ μ f g Δ x hσ) (vx_cwSW 3 hC.2.2.2.2.1 gL_law_L_period rfl rfl rfl (by decide +kernel) ⟨Nat.le_of_ble_eq_true rfl, Nat.le_of_ble_eq_true rfl⟩) rfl rfl (Nat.le_of_ble_eq_true rfl) dL_law_1957 ⟨Nat.le_trans (Nat.add_le_add_left (by decide) _) hk, Nat.le_trans (Nat.add_le_add_left (by decide) _) hn⟩ (fun v w1 hp => ?_)
  have hp : wPost q g μ Δ (Δ) K (fun t : Int64 => ∃ v : Int32, t = v.toInt64 ∧ (fun b => ∃ d, b = nI d ∧ isPd (Δ.2.1 (rI x)) (Δ.2.2 (rI x)) d) v) v w1 := by rw [hK]; exact hp
  obtain ⟨rfl, σ1, f1, rfl, h1⟩ := hp
  refine gStk (st' := [.int (nI K)]) (pc' := 1960) rfl rfl ?_
  refine gIstore (pc := 1960) hC (lv' := [(6, .int (nI K)), (0, .ref b), (1, .ref (wx q)), (2, .ref (wm q)), (3, .ref (wo q)), (4, .ref (wd q)), (5, .int (nI (4 * t)))]) dL_law_1960 (by decide) rfl ?_
  refine gAloadN (pc := 1962) hC dL_law_1962 rfl 3 rfl ?_
  refine gAloadN (pc := 1963) hC dL_law_1963 rfl 1 rfl ?_
  refine gIload (pc := 1964) hC dL_law_1964 6 rfl ?_
  refine gIconst (pc := 1966) hC (v := (nI 1)) dL_law_1966 (by decide +kernel) ?_
  refine gIadd (pc := 1967) hC (v := nI (4 * t + 1)) dL_law_1967 (nI_add _ _) ?_
  refine gSld (pc := 1968) hC (v := x) hX (4 * t + 1) rfl (by omega) hN hx dL_law_1968 ?_
  refine gToM ?_
  refine gV (pc := 1969) (rest := []) (ci := 2) (q0 := 0) hM (c_X2_period l D (LM q f1 g σ1) μ Δ x hμ) rfl rfl (cwV 1 hC.2.2.2.2.1 gL_law_X2_period rfl rfl rfl (by decide +kernel) ⟨Nat.le_of_ble_eq_true rfl, Nat.le_of_ble_eq_true rfl⟩) rfl rfl (Nat.le_of_ble_eq_true rfl) dL_law_1969 ⟨Nat.le_trans (show k + 1 + 0 ≤ k + 8 by omega) hk, Nat.le_trans (show n + 6 + 0 ≤ n + 48 by omega) hn⟩ (fun v w1 hp => ?_)
  have hp : mPost (LM q f1 g σ1) Δ (Δ) K (fun b => ∃ d, b = nI d ∧ isPd (Δ.2.1 (rI x)) (Δ.2.2 (rI x)) d) v w1 := by rw [hK]; exact hp
  obtain ⟨b1, rfl, μ1, rfl, hmt, h2⟩ := hp
  refine gStk (st' := [.int b1]) (pc' := 1972) rfl rfl ?_
  have hj := wJoin h1 h2
  refine gIstore (pc := 1972) hM (lv' := [(7, .int b1), (6, .int (nI K)), (0, .ref b), (1, .ref (wx q)), (2, .ref (wm q)), (3, .ref (wo q)), (4, .ref (wd q)), (5, .int (nI (4 * t)))]) dL_law_1972 (by decide) rfl ?_
  refine gAloadN (pc := 1974) hM dL_law_1974 rfl 4 rfl ?_
  refine gV (pc := 1975) (rest := []) (ci := 2) (q0 := 0) hM (c_X2_thrown l D (LM q f1 g σ1) μ1) rfl rfl (cwV 0 hC.2.2.2.2.1 gL_law_X2_thrown rfl rfl rfl (by decide +kernel) ⟨Nat.le_of_ble_eq_true rfl, Nat.le_of_ble_eq_true rfl⟩) rfl rfl (Nat.le_of_ble_eq_true rfl) dL_law_1975 ⟨Nat.le_trans (show k + 1 + 0 ≤ k + 8 by omega) hk, Nat.le_trans (show n + 6 + 0 ≤ n + 48 by omega) hn⟩ (fun v w1 hp => ?_)
  obtain ⟨rfl, rfl⟩ := hp
  refine gStk (st' := [.int (mt μ1)]) (pc' := 1978) rfl rfl ?_
  refine gIload (pc := 1978) hM dL_law_1978 1 rfl ?_
  refine gIcmp_eq (tgt := 1985) (pc := 1980) hM dL_law_1980 (by decide) (fun _ => ?_) (fun h => absurd hmt h)
  rcases hj with ⟨hK0, ⟨hcv, hσ1⟩, hvl, hμ1⟩ | ⟨hK1, hσ1, hμ1⟩
  · skip
    refine gIload (pc := 1985) hM dL_law_1985 1 rfl ?_
    refine gIf_ne (tgt := 2002) (pc := 1987) hM dL_law_1987 (by decide) (fun h => absurd (by rw [hK0]; rfl) h) (fun _ => ?_)
    obtain ⟨v0, hv0, hcv⟩ := hcv
    have hvb : v0 = b1 := by obtain ⟨d1, e1, p1⟩ := hcv; obtain ⟨d2, e2, p2⟩ := hvl; rw [e1, e2, isPd_one p1 p2]
    refine gAloadN (pc := 1990) hM dL_law_1990 rfl 5 rfl ?_
    refine gIconst (pc := 1991) hM (v := (nI 0)) dL_law_1991 (by decide +kernel) ?_
    refine gLald (pc := 1992) hM 0 rfl (by decide) (by decide) 9 3 rfl rfl rfl dL_law_1992 ?_
    refine gIload (pc := 1993) hM dL_law_1993 0 rfl ?_
    refine gI2l (pc := 1995) hM dL_law_1995 rfl ?_
    refine gLcmp (v := nI 0) (pc := 1996) hM dL_law_1996 (by rw [hv0, hvb]; exact lg_cmp_self _) ?_
    refine gIf_eq (tgt := 2002) (pc := 1997) hM dL_law_1997 (by decide) (fun _ => ?_) (fun h => absurd rfl h)
    refine gGoto (pc := 2002) hM (tgt := 2915) dL_law_2002 (by decide) ?_
    refine gToC ?_
    refine gLoc (lv' := [(0, .ref b), (1, .ref (wx q)), (2, .ref (wm q)), (3, .ref (wo q)), (4, .ref (wd q)), (5, .int (nI (4 * t)))]) [2, 3, 4, 5, 6, 7] rfl ?_
    exact gWid (show k + 1 + 0 + 0 ≤ k + 8 by omega) (show n + 6 + 0 + 0 ≤ n + 48 by omega) (kk σ1 μ1 f1 g (Δ) hσ1 hμ1)
  · skip
    refine gIload (pc := 1985) hM dL_law_1985 1 rfl ?_
    refine gIf_ne (tgt := 2002) (pc := 1987) hM dL_law_1987 (by decide) (fun _ => ?_) (fun h => absurd h (hKn hK1))
    refine gGoto (pc := 2002) hM (tgt := 2915) dL_law_2002 (by decide) ?_
    refine gToC ?_
    refine gLoc (lv' := [(0, .ref b), (1, .ref (wx q)), (2, .ref (wm q)), (3, .ref (wo q)), (4, .ref (wd q)), (5, .int (nI (4 * t)))]) [2, 3, 4, 5, 6, 7] rfl ?_
    exact gWid (show k + 1 + 0 + 0 ≤ k + 8 by omega) (show n + 6 + 0 + 0 ≤ n + 48 by omega) (kk σ1 μ1 f1 g (Δ) hσ1 hμ1)

set_option maxRecDepth 100000 in
set_option maxHeartbeats 4000000 in
theorem lk_27 {p : Program} {l : Launch} {e : Env} {s : State} {m : MethodId} {args : Array Value} {below : List Frame} {meth : Method} {c : Code} {D : va_G} {A : Nat → Prop} {Q : State → Prop} (q : wLay) {b N : Nat} {xs : Nat → Int32} (hC : gC p s m args meth c cL_law 9 RL wsL_law D (wTy q) A) (hX : va_X b N xs s s.heap ∧ b < s.heap.size ∧ ¬ A b) (hl9 : l.stackTraces = false) (hN : N ≤ 2048) {t k n : Nat} (ht : 4 * t + 4 ≤ N) (hk : k + 8 ≤ 663840) (hn : n + 48 ≤ 7104584) {σ : cSt} {μ : mSt} {f : Nat → Int64} {g : Nat → UInt64} {Δ : dSt} (hσ : cRel σ Δ) (hμ : mRel μ Δ) (x y z : Int32) (hx : xs (4 * t + 1) = x) (hy : xs (4 * t + 2) = y) (hz : xs (4 * t + 3) = z) (kk : ∀ (σ' : cSt) (μ' : mSt) (f' : Nat → Int64) (g' : Nat → UInt64) (Δ' : dSt), cRel σ' Δ' → mRel μ' Δ' → gG p l e room_1 s m args below meth c D A 9 (k + 8) (n + 48) Q (WC (LC q f' g' μ') σ') 2915 [(0, .ref b), (1, .ref (wx q)), (2, .ref (wm q)), (3, .ref (wo q)), (4, .ref (wd q)), (5, .int (nI (4 * t)))] []) : gG p l e room_1 s m args below meth c D A 9 k n Q (WC (LC q f g μ) σ) 2005 [(0, .ref b), (1, .ref (wx q)), (2, .ref (wm q)), (3, .ref (wo q)), (4, .ref (wd q)), (5, .int (nI (4 * t)))] [] := by
  have hM := gCm hC
  refine gAloadN (pc := 2005) hC dL_law_2005 rfl 1 rfl ?_
  refine gAloadN (pc := 2006) hC dL_law_2006 rfl 0 rfl ?_
  refine gIload (pc := 2007) hC dL_law_2007 5 rfl ?_
  refine gIconst (pc := 2009) hC (v := (nI 1)) dL_law_2009 (by decide +kernel) ?_
  refine gIadd (pc := 2010) hC (v := nI (4 * t + 1)) dL_law_2010 (nI_add _ _) ?_
  refine gSld (pc := 2011) hC (v := x) hX (4 * t + 1) rfl (by omega) hN hx dL_law_2011 ?_
  refine gAloadN (pc := 2012) hC dL_law_2012 rfl 3 rfl ?_
  obtain ⟨K, hK⟩ : ∃ K : Nat, K = kk1 (okR x) := ⟨_, rfl⟩
  have hKn : ¬ K = 0 → ¬ nI K = 0 := by rw [hK]; exact kk1_n
  refine gSW (pc := 2013) (rest := []) hC hl9 (c_L_factor l D q σ μ f g Δ x hσ) (vx_cwSW 3 hC.2.2.2.2.1 gL_law_L_factor rfl rfl rfl (by decide +kernel) ⟨Nat.le_of_ble_eq_true rfl, Nat.le_of_ble_eq_true rfl⟩) rfl rfl (Nat.le_of_ble_eq_true rfl) dL_law_2013 ⟨Nat.le_trans (Nat.add_le_add_left (by decide) _) hk, Nat.le_trans (Nat.add_le_add_left (by decide) _) hn⟩ (fun v w1 hp => ?_)
  have hp : wPost q g μ Δ (Δ) K (fun t : Int64 => ∃ v : Int32, t = v.toInt64 ∧ (fun b => ((∀ j, j < (Δ.2.1 (rI x)) → (Δ.2.2 (rI x)) j * (off (Δ.2.2 (rI x)) (ps (Δ.2.1 (rI x)) (un Δ.1 (Δ.2.1 (rI x))) 1 (Δ.2.2 (rI x))) (Δ.2.1 (rI x)) 0) = (ps (Δ.2.1 (rI x)) (un Δ.1 (Δ.2.1 (rI x))) 1 (Δ.2.2 (rI x))) j) ∧ b = nI (off (Δ.2.2 (rI x)) (ps (Δ.2.1 (rI x)) (un Δ.1 (Δ.2.1 (rI x))) 1 (Δ.2.2 (rI x))) (Δ.2.1 (rI x)) 0).val) ∨ ((¬ ∀ j, j < (Δ.2.1 (rI x)) → (Δ.2.2 (rI x)) j * (off (Δ.2.2 (rI x)) (ps (Δ.2.1 (rI x)) (un Δ.1 (Δ.2.1 (rI x))) 1 (Δ.2.2 (rI x))) (Δ.2.1 (rI x)) 0) = (ps (Δ.2.1 (rI x)) (un Δ.1 (Δ.2.1 (rI x))) 1 (Δ.2.2 (rI x))) j) ∧ b = -1)) v) v w1 := by rw [hK]; exact hp
  obtain ⟨rfl, σ1, f1, rfl, h1⟩ := hp
  refine gStk (st' := [.int (nI K)]) (pc' := 2016) rfl rfl ?_
  refine gIstore (pc := 2016) hC (lv' := [(6, .int (nI K)), (0, .ref b), (1, .ref (wx q)), (2, .ref (wm q)), (3, .ref (wo q)), (4, .ref (wd q)), (5, .int (nI (4 * t)))]) dL_law_2016 (by decide) rfl ?_
  refine gAloadN (pc := 2018) hC dL_law_2018 rfl 3 rfl ?_
  refine gAloadN (pc := 2019) hC dL_law_2019 rfl 1 rfl ?_
  refine gIload (pc := 2020) hC dL_law_2020 6 rfl ?_
  refine gIconst (pc := 2022) hC (v := (nI 1)) dL_law_2022 (by decide +kernel) ?_
  refine gIadd (pc := 2023) hC (v := nI (4 * t + 1)) dL_law_2023 (nI_add _ _) ?_
  refine gSld (pc := 2024) hC (v := x) hX (4 * t + 1) rfl (by omega) hN hx dL_law_2024 ?_
  refine gToM ?_
  refine gV (pc := 2025) (rest := []) (ci := 2) (q0 := 0) hM (c_X2_factor l D (LM q f1 g σ1) μ Δ x hμ) rfl rfl (cwV 1 hC.2.2.2.2.1 gL_law_X2_factor rfl rfl rfl (by decide +kernel) ⟨Nat.le_of_ble_eq_true rfl, Nat.le_of_ble_eq_true rfl⟩) rfl rfl (Nat.le_of_ble_eq_true rfl) dL_law_2025 ⟨Nat.le_trans (show k + 1 + 0 ≤ k + 8 by omega) hk, Nat.le_trans (show n + 6 + 0 ≤ n + 48 by omega) hn⟩ (fun v w1 hp => ?_)
  have hp : mPost (LM q f1 g σ1) Δ (Δ) K (fun b => ((∀ j, j < (Δ.2.1 (rI x)) → (Δ.2.2 (rI x)) j * (off (Δ.2.2 (rI x)) (ps (Δ.2.1 (rI x)) (un Δ.1 (Δ.2.1 (rI x))) 1 (Δ.2.2 (rI x))) (Δ.2.1 (rI x)) 0) = (ps (Δ.2.1 (rI x)) (un Δ.1 (Δ.2.1 (rI x))) 1 (Δ.2.2 (rI x))) j) ∧ b = nI (off (Δ.2.2 (rI x)) (ps (Δ.2.1 (rI x)) (un Δ.1 (Δ.2.1 (rI x))) 1 (Δ.2.2 (rI x))) (Δ.2.1 (rI x)) 0).val) ∨ ((¬ ∀ j, j < (Δ.2.1 (rI x)) → (Δ.2.2 (rI x)) j * (off (Δ.2.2 (rI x)) (ps (Δ.2.1 (rI x)) (un Δ.1 (Δ.2.1 (rI x))) 1 (Δ.2.2 (rI x))) (Δ.2.1 (rI x)) 0) = (ps (Δ.2.1 (rI x)) (un Δ.1 (Δ.2.1 (rI x))) 1 (Δ.2.2 (rI x))) j) ∧ b = -1)) v w1 := by rw [hK]; exact hp
  obtain ⟨b1, rfl, μ1, rfl, hmt, h2⟩ := hp
  refine gStk (st' := [.int b1]) (pc' := 2028) rfl rfl ?_
  have hj := wJoin h1 h2
  refine gIstore (pc := 2028) hM (lv' := [(7, .int b1), (6, .int (nI K)), (0, .ref b), (1, .ref (wx q)), (2, .ref (wm q)), (3, .ref (wo q)), (4, .ref (wd q)), (5, .int (nI (4 * t)))]) dL_law_2028 (by decide) rfl ?_
  refine gAloadN (pc := 2030) hM dL_law_2030 rfl 4 rfl ?_
  refine gV (pc := 2031) (rest := []) (ci := 2) (q0 := 0) hM (c_X2_thrown l D (LM q f1 g σ1) μ1) rfl rfl (cwV 0 hC.2.2.2.2.1 gL_law_X2_thrown rfl rfl rfl (by decide +kernel) ⟨Nat.le_of_ble_eq_true rfl, Nat.le_of_ble_eq_true rfl⟩) rfl rfl (Nat.le_of_ble_eq_true rfl) dL_law_2031 ⟨Nat.le_trans (show k + 1 + 0 ≤ k + 8 by omega) hk, Nat.le_trans (show n + 6 + 0 ≤ n + 48 by omega) hn⟩ (fun v w1 hp => ?_)
  obtain ⟨rfl, rfl⟩ := hp
  refine gStk (st' := [.int (mt μ1)]) (pc' := 2034) rfl rfl ?_
  refine gIload (pc := 2034) hM dL_law_2034 1 rfl ?_
  refine gIcmp_eq (tgt := 2041) (pc := 2036) hM dL_law_2036 (by decide) (fun _ => ?_) (fun h => absurd hmt h)
  rcases hj with ⟨hK0, ⟨hcv, hσ1⟩, hvl, hμ1⟩ | ⟨hK1, hσ1, hμ1⟩
  · skip
    refine gIload (pc := 2041) hM dL_law_2041 1 rfl ?_
    refine gIf_ne (tgt := 2058) (pc := 2043) hM dL_law_2043 (by decide) (fun h => absurd (by rw [hK0]; rfl) h) (fun _ => ?_)
    obtain ⟨v0, hv0, hcv⟩ := hcv
    have hvb : v0 = b1 := by rcases hcv with ⟨a1, a2⟩ | ⟨a1, a2⟩ <;> rcases hvl with ⟨e1, e2⟩ | ⟨e1, e2⟩ <;> first | exact a1.trans e1.symm | exact a2.trans e2.symm | exact absurd a2 e2 | exact absurd e2 a2 | exact absurd a1 e1 | exact absurd e1 a1
    refine gAloadN (pc := 2046) hM dL_law_2046 rfl 5 rfl ?_
    refine gIconst (pc := 2047) hM (v := (nI 0)) dL_law_2047 (by decide +kernel) ?_
    refine gLald (pc := 2048) hM 0 rfl (by decide) (by decide) 9 3 rfl rfl rfl dL_law_2048 ?_
    refine gIload (pc := 2049) hM dL_law_2049 0 rfl ?_
    refine gI2l (pc := 2051) hM dL_law_2051 rfl ?_
    refine gLcmp (v := nI 0) (pc := 2052) hM dL_law_2052 (by rw [hv0, hvb]; exact lg_cmp_self _) ?_
    refine gIf_eq (tgt := 2058) (pc := 2053) hM dL_law_2053 (by decide) (fun _ => ?_) (fun h => absurd rfl h)
    refine gGoto (pc := 2058) hM (tgt := 2915) dL_law_2058 (by decide) ?_
    refine gToC ?_
    refine gLoc (lv' := [(0, .ref b), (1, .ref (wx q)), (2, .ref (wm q)), (3, .ref (wo q)), (4, .ref (wd q)), (5, .int (nI (4 * t)))]) [2, 3, 4, 5, 6, 7] rfl ?_
    exact gWid (show k + 1 + 0 + 0 ≤ k + 8 by omega) (show n + 6 + 0 + 0 ≤ n + 48 by omega) (kk σ1 μ1 f1 g (Δ) hσ1 hμ1)
  · skip
    refine gIload (pc := 2041) hM dL_law_2041 1 rfl ?_
    refine gIf_ne (tgt := 2058) (pc := 2043) hM dL_law_2043 (by decide) (fun _ => ?_) (fun h => absurd h (hKn hK1))
    refine gGoto (pc := 2058) hM (tgt := 2915) dL_law_2058 (by decide) ?_
    refine gToC ?_
    refine gLoc (lv' := [(0, .ref b), (1, .ref (wx q)), (2, .ref (wm q)), (3, .ref (wo q)), (4, .ref (wd q)), (5, .int (nI (4 * t)))]) [2, 3, 4, 5, 6, 7] rfl ?_
    exact gWid (show k + 1 + 0 + 0 ≤ k + 8 by omega) (show n + 6 + 0 + 0 ≤ n + 48 by omega) (kk σ1 μ1 f1 g (Δ) hσ1 hμ1)
