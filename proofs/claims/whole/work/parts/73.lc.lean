set_option maxRecDepth 100000 in
set_option maxHeartbeats 4000000 in
theorem lk_28 {p : Program} {l : Launch} {e : Env} {s : State} {m : MethodId} {args : Array Value} {below : List Frame} {meth : Method} {c : Code} {D : va_G} {A : Nat → Prop} {Q : State → Prop} (q : wLay) {b N : Nat} {xs : Nat → Int32} (hC : gC p s m args meth c cL_law 9 RL wsL_law D (wTy q) A) (hX : va_X b N xs s s.heap ∧ b < s.heap.size ∧ ¬ A b) (hl9 : l.stackTraces = false) (hN : N ≤ 2048) {t k n : Nat} (ht : 4 * t + 4 ≤ N) (hk : k + 8 ≤ 663840) (hn : n + 48 ≤ 7104584) {σ : cSt} {μ : mSt} {f : Nat → Int64} {g : Nat → UInt64} {Δ : dSt} (hσ : cRel σ Δ) (hμ : mRel μ Δ) (x y z : Int32) (hx : xs (4 * t + 1) = x) (hy : xs (4 * t + 2) = y) (hz : xs (4 * t + 3) = z) (kk : ∀ (σ' : cSt) (μ' : mSt) (f' : Nat → Int64) (g' : Nat → UInt64) (Δ' : dSt), cRel σ' Δ' → mRel μ' Δ' → gG p l e room_1 s m args below meth c D A 9 (k + 8) (n + 48) Q (WC (LC q f' g' μ') σ') 2915 [(0, .ref b), (1, .ref (wx q)), (2, .ref (wm q)), (3, .ref (wo q)), (4, .ref (wd q)), (5, .int (nI (4 * t)))] []) : gG p l e room_1 s m args below meth c D A 9 k n Q (WC (LC q f g μ) σ) 2061 [(0, .ref b), (1, .ref (wx q)), (2, .ref (wm q)), (3, .ref (wo q)), (4, .ref (wd q)), (5, .int (nI (4 * t)))] [] := by
  have hM := gCm hC
  refine gAloadN (pc := 2061) hC dL_law_2061 rfl 1 rfl ?_
  refine gAloadN (pc := 2062) hC dL_law_2062 rfl 0 rfl ?_
  refine gIload (pc := 2063) hC dL_law_2063 5 rfl ?_
  refine gIconst (pc := 2065) hC (v := (nI 1)) dL_law_2065 (by decide +kernel) ?_
  refine gIadd (pc := 2066) hC (v := nI (4 * t + 1)) dL_law_2066 (nI_add _ _) ?_
  refine gSld (pc := 2067) hC (v := x) hX (4 * t + 1) rfl (by omega) hN hx dL_law_2067 ?_
  refine gAloadN (pc := 2068) hC dL_law_2068 rfl 0 rfl ?_
  refine gIload (pc := 2069) hC dL_law_2069 5 rfl ?_
  refine gIconst (pc := 2071) hC (v := (nI 2)) dL_law_2071 (by decide +kernel) ?_
  refine gIadd (pc := 2072) hC (v := nI (4 * t + 2)) dL_law_2072 (nI_add _ _) ?_
  refine gSld (pc := 2073) hC (v := y) hX (4 * t + 2) rfl (by omega) hN hy dL_law_2073 ?_
  refine gAloadN (pc := 2074) hC dL_law_2074 rfl 0 rfl ?_
  refine gIload (pc := 2075) hC dL_law_2075 5 rfl ?_
  refine gIconst (pc := 2077) hC (v := (nI 3)) dL_law_2077 (by decide +kernel) ?_
  refine gIadd (pc := 2078) hC (v := nI (4 * t + 3)) dL_law_2078 (nI_add _ _) ?_
  refine gSld (pc := 2079) hC (v := z) hX (4 * t + 3) rfl (by omega) hN hz dL_law_2079 ?_
  refine gNz hC 2080 dL_law_2080 dL_law_2083 dL_law_2084 dL_law_2087 ?_
  refine gStk (st' := [.int (bz z), .int y, .int x, .ref (wx q)]) (pc' := 2088) rfl rfl ?_
  refine gAloadN (pc := 2088) hC dL_law_2088 rfl 3 rfl ?_
  obtain ⟨K, hK⟩ : ∃ K : Nat, K = kk2 (okR x ∧ okR y) ((Δ.2.1 (rI x)) = (Δ.2.1 (rI y))) := ⟨_, rfl⟩
  have hKn : ¬ K = 0 → ¬ nI K = 0 := by rw [hK]; exact kk2_n
  refine gSW (pc := 2089) (rest := []) hC hl9 (c_L_sum l D q σ μ f g Δ x y (bz z) hσ) (vx_cwSW 5 hC.2.2.2.2.1 gL_law_L_sum rfl rfl rfl (by decide +kernel) ⟨Nat.le_of_ble_eq_true rfl, Nat.le_of_ble_eq_true rfl⟩) rfl rfl (Nat.le_of_ble_eq_true rfl) dL_law_2089 ⟨Nat.le_trans (Nat.add_le_add_left (by decide) _) hk, Nat.le_trans (Nat.add_le_add_left (by decide) _) hn⟩ (fun v w1 hp => ?_)
  have hp : wPost q g μ Δ (Δ) K (fun t : Int64 => ∃ v : Int32, t = v.toInt64 ∧ (fun b => b = nI (sg (Δ.2.1 (rI x)) (fun i => (Δ.2.2 (rI x)) i * (Δ.2.2 (rI y)) (ix (Δ.2.1 (rI x)) (if (bz z) = 0 then (i : Int) else -(i : Int))))).val) v) v w1 := by rw [hK]; exact hp
  obtain ⟨rfl, σ1, f1, rfl, h1⟩ := hp
  refine gStk (st' := [.int (nI K)]) (pc' := 2092) rfl rfl ?_
  refine gIstore (pc := 2092) hC (lv' := [(6, .int (nI K)), (0, .ref b), (1, .ref (wx q)), (2, .ref (wm q)), (3, .ref (wo q)), (4, .ref (wd q)), (5, .int (nI (4 * t)))]) dL_law_2092 (by decide) rfl ?_
  refine gAloadN (pc := 2094) hC dL_law_2094 rfl 3 rfl ?_
  refine gAloadN (pc := 2095) hC dL_law_2095 rfl 1 rfl ?_
  refine gIload (pc := 2096) hC dL_law_2096 6 rfl ?_
  refine gIconst (pc := 2098) hC (v := (nI 1)) dL_law_2098 (by decide +kernel) ?_
  refine gIadd (pc := 2099) hC (v := nI (4 * t + 1)) dL_law_2099 (nI_add _ _) ?_
  refine gSld (pc := 2100) hC (v := x) hX (4 * t + 1) rfl (by omega) hN hx dL_law_2100 ?_
  refine gAloadN (pc := 2101) hC dL_law_2101 rfl 1 rfl ?_
  refine gIload (pc := 2102) hC dL_law_2102 6 rfl ?_
  refine gIconst (pc := 2104) hC (v := (nI 2)) dL_law_2104 (by decide +kernel) ?_
  refine gIadd (pc := 2105) hC (v := nI (4 * t + 2)) dL_law_2105 (nI_add _ _) ?_
  refine gSld (pc := 2106) hC (v := y) hX (4 * t + 2) rfl (by omega) hN hy dL_law_2106 ?_
  refine gAloadN (pc := 2107) hC dL_law_2107 rfl 1 rfl ?_
  refine gIload (pc := 2108) hC dL_law_2108 6 rfl ?_
  refine gIconst (pc := 2110) hC (v := (nI 3)) dL_law_2110 (by decide +kernel) ?_
  refine gIadd (pc := 2111) hC (v := nI (4 * t + 3)) dL_law_2111 (nI_add _ _) ?_
  refine gSld (pc := 2112) hC (v := z) hX (4 * t + 3) rfl (by omega) hN hz dL_law_2112 ?_
  refine gNz hC 2113 dL_law_2113 dL_law_2116 dL_law_2117 dL_law_2120 ?_
  refine gStk (st' := [.int (bz z), .int y, .int x, .ref (wm q)]) (pc' := 2121) rfl rfl ?_
  refine gToM ?_
  refine gV (pc := 2121) (rest := []) (ci := 2) (q0 := 0) hM (c_X2_sum l D (LM q f1 g σ1) μ Δ x y (bz z) hμ) rfl rfl (cwV 3 hC.2.2.2.2.1 gL_law_X2_sum rfl rfl rfl (by decide +kernel) ⟨Nat.le_of_ble_eq_true rfl, Nat.le_of_ble_eq_true rfl⟩) rfl rfl (Nat.le_of_ble_eq_true rfl) dL_law_2121 ⟨Nat.le_trans (show k + 3 + 0 ≤ k + 8 by omega) hk, Nat.le_trans (show n + 18 + 0 ≤ n + 48 by omega) hn⟩ (fun v w1 hp => ?_)
  have hp : mPost (LM q f1 g σ1) Δ (Δ) K (fun b => b = nI (sg (Δ.2.1 (rI x)) (fun i => (Δ.2.2 (rI x)) i * (Δ.2.2 (rI y)) (ix (Δ.2.1 (rI x)) (if (bz z) = 0 then (i : Int) else -(i : Int))))).val) v w1 := by rw [hK]; exact hp
  obtain ⟨b1, rfl, μ1, rfl, hmt, h2⟩ := hp
  refine gStk (st' := [.int b1]) (pc' := 2124) rfl rfl ?_
  have hj := wJoin h1 h2
  refine gIstore (pc := 2124) hM (lv' := [(7, .int b1), (6, .int (nI K)), (0, .ref b), (1, .ref (wx q)), (2, .ref (wm q)), (3, .ref (wo q)), (4, .ref (wd q)), (5, .int (nI (4 * t)))]) dL_law_2124 (by decide) rfl ?_
  refine gAloadN (pc := 2126) hM dL_law_2126 rfl 4 rfl ?_
  refine gV (pc := 2127) (rest := []) (ci := 2) (q0 := 0) hM (c_X2_thrown l D (LM q f1 g σ1) μ1) rfl rfl (cwV 0 hC.2.2.2.2.1 gL_law_X2_thrown rfl rfl rfl (by decide +kernel) ⟨Nat.le_of_ble_eq_true rfl, Nat.le_of_ble_eq_true rfl⟩) rfl rfl (Nat.le_of_ble_eq_true rfl) dL_law_2127 ⟨Nat.le_trans (show k + 3 + 0 ≤ k + 8 by omega) hk, Nat.le_trans (show n + 18 + 0 ≤ n + 48 by omega) hn⟩ (fun v w1 hp => ?_)
  obtain ⟨rfl, rfl⟩ := hp
  refine gStk (st' := [.int (mt μ1)]) (pc' := 2130) rfl rfl ?_
  refine gIload (pc := 2130) hM dL_law_2130 1 rfl ?_
  refine gIcmp_eq (tgt := 2137) (pc := 2132) hM dL_law_2132 (by decide) (fun _ => ?_) (fun h => absurd hmt h)
  rcases hj with ⟨hK0, ⟨hcv, hσ1⟩, hvl, hμ1⟩ | ⟨hK1, hσ1, hμ1⟩
  · skip
    refine gIload (pc := 2137) hM dL_law_2137 1 rfl ?_
    refine gIf_ne (tgt := 2154) (pc := 2139) hM dL_law_2139 (by decide) (fun h => absurd (by rw [hK0]; rfl) h) (fun _ => ?_)
    obtain ⟨v0, hv0, hcv⟩ := hcv
    have hvb : v0 = b1 := hcv.trans hvl.symm
    refine gAloadN (pc := 2142) hM dL_law_2142 rfl 5 rfl ?_
    refine gIconst (pc := 2143) hM (v := (nI 0)) dL_law_2143 (by decide +kernel) ?_
    refine gLald (pc := 2144) hM 0 rfl (by decide) (by decide) 9 3 rfl rfl rfl dL_law_2144 ?_
    refine gIload (pc := 2145) hM dL_law_2145 0 rfl ?_
    refine gI2l (pc := 2147) hM dL_law_2147 rfl ?_
    refine gLcmp (v := nI 0) (pc := 2148) hM dL_law_2148 (by rw [hv0, hvb]; exact lg_cmp_self _) ?_
    refine gIf_eq (tgt := 2154) (pc := 2149) hM dL_law_2149 (by decide) (fun _ => ?_) (fun h => absurd rfl h)
    refine gGoto (pc := 2154) hM (tgt := 2915) dL_law_2154 (by decide) ?_
    refine gToC ?_
    refine gLoc (lv' := [(0, .ref b), (1, .ref (wx q)), (2, .ref (wm q)), (3, .ref (wo q)), (4, .ref (wd q)), (5, .int (nI (4 * t)))]) [2, 3, 4, 5, 6, 7] rfl ?_
    exact gWid (show k + 3 + 0 + 0 ≤ k + 8 by omega) (show n + 18 + 0 + 0 ≤ n + 48 by omega) (kk σ1 μ1 f1 g (Δ) hσ1 hμ1)
  · skip
    refine gIload (pc := 2137) hM dL_law_2137 1 rfl ?_
    refine gIf_ne (tgt := 2154) (pc := 2139) hM dL_law_2139 (by decide) (fun _ => ?_) (fun h => absurd h (hKn hK1))
    refine gGoto (pc := 2154) hM (tgt := 2915) dL_law_2154 (by decide) ?_
    refine gToC ?_
    refine gLoc (lv' := [(0, .ref b), (1, .ref (wx q)), (2, .ref (wm q)), (3, .ref (wo q)), (4, .ref (wd q)), (5, .int (nI (4 * t)))]) [2, 3, 4, 5, 6, 7] rfl ?_
    exact gWid (show k + 3 + 0 + 0 ≤ k + 8 by omega) (show n + 18 + 0 + 0 ≤ n + 48 by omega) (kk σ1 μ1 f1 g (Δ) hσ1 hμ1)

set_option maxRecDepth 100000 in
set_option maxHeartbeats 4000000 in
theorem lk_29 {p : Program} {l : Launch} {e : Env} {s : State} {m : MethodId} {args : Array Value} {below : List Frame} {meth : Method} {c : Code} {D : va_G} {A : Nat → Prop} {Q : State → Prop} (q : wLay) {b N : Nat} {xs : Nat → Int32} (hC : gC p s m args meth c cL_law 9 RL wsL_law D (wTy q) A) (hX : va_X b N xs s s.heap ∧ b < s.heap.size ∧ ¬ A b) (hl9 : l.stackTraces = false) (hN : N ≤ 2048) {t k n : Nat} (ht : 4 * t + 4 ≤ N) (hk : k + 8 ≤ 663840) (hn : n + 48 ≤ 7104584) {σ : cSt} {μ : mSt} {f : Nat → Int64} {g : Nat → UInt64} {Δ : dSt} (hσ : cRel σ Δ) (hμ : mRel μ Δ) (x y z : Int32) (hx : xs (4 * t + 1) = x) (hy : xs (4 * t + 2) = y) (hz : xs (4 * t + 3) = z) (kk : ∀ (σ' : cSt) (μ' : mSt) (f' : Nat → Int64) (g' : Nat → UInt64) (Δ' : dSt), cRel σ' Δ' → mRel μ' Δ' → gG p l e room_1 s m args below meth c D A 9 (k + 8) (n + 48) Q (WC (LC q f' g' μ') σ') 2915 [(0, .ref b), (1, .ref (wx q)), (2, .ref (wm q)), (3, .ref (wo q)), (4, .ref (wd q)), (5, .int (nI (4 * t)))] []) : gG p l e room_1 s m args below meth c D A 9 k n Q (WC (LC q f g μ) σ) 2157 [(0, .ref b), (1, .ref (wx q)), (2, .ref (wm q)), (3, .ref (wo q)), (4, .ref (wd q)), (5, .int (nI (4 * t)))] [] := by
  have hM := gCm hC
  refine gAloadN (pc := 2157) hC dL_law_2157 rfl 1 rfl ?_
  refine gAloadN (pc := 2158) hC dL_law_2158 rfl 0 rfl ?_
  refine gIload (pc := 2159) hC dL_law_2159 5 rfl ?_
  refine gIconst (pc := 2161) hC (v := (nI 1)) dL_law_2161 (by decide +kernel) ?_
  refine gIadd (pc := 2162) hC (v := nI (4 * t + 1)) dL_law_2162 (nI_add _ _) ?_
  refine gSld (pc := 2163) hC (v := x) hX (4 * t + 1) rfl (by omega) hN hx dL_law_2163 ?_
  refine gAload (pc := 2164) hC dL_law_2164 4 rfl ?_
  obtain ⟨K, hK⟩ : ∃ K : Nat, K = kk1 (okR x) := ⟨_, rfl⟩
  have hKn : ¬ K = 0 → ¬ nI K = 0 := by rw [hK]; exact kk1_n
  refine gSW (pc := 2166) (rest := []) hC hl9 (c_L_mean l D q σ μ f g Δ x hσ) (vx_cwSW 3 hC.2.2.2.2.1 gL_law_L_mean rfl rfl rfl (by decide +kernel) ⟨Nat.le_of_ble_eq_true rfl, Nat.le_of_ble_eq_true rfl⟩) rfl rfl (Nat.le_of_ble_eq_true rfl) dL_law_2166 ⟨Nat.le_trans (Nat.add_le_add_left (by decide) _) hk, Nat.le_trans (Nat.add_le_add_left (by decide) _) hn⟩ (fun v w1 hp => ?_)
  have hp : wPostD q f μ Δ (Δ) K (fun t : UInt64 => (fun b => b = meanV (Δ.2.1 (rI x)) (Δ.2.2 (rI x))) t ∧ Jvm.FP.Core.dIsNaN t = false) v w1 := by rw [hK]; exact hp
  obtain ⟨rfl, σ1, g1, rfl, h1⟩ := hp
  refine gStk (st' := [.int (nI K)]) (pc' := 2169) rfl rfl ?_
  refine gIstore (pc := 2169) hC (lv' := [(6, .int (nI K)), (0, .ref b), (1, .ref (wx q)), (2, .ref (wm q)), (3, .ref (wo q)), (4, .ref (wd q)), (5, .int (nI (4 * t)))]) dL_law_2169 (by decide) rfl ?_
  refine gAloadN (pc := 2171) hC dL_law_2171 rfl 3 rfl ?_
  refine gAloadN (pc := 2172) hC dL_law_2172 rfl 1 rfl ?_
  refine gIload (pc := 2173) hC dL_law_2173 6 rfl ?_
  refine gIconst (pc := 2175) hC (v := (nI 1)) dL_law_2175 (by decide +kernel) ?_
  refine gIadd (pc := 2176) hC (v := nI (4 * t + 1)) dL_law_2176 (nI_add _ _) ?_
  refine gSld (pc := 2177) hC (v := x) hX (4 * t + 1) rfl (by omega) hN hx dL_law_2177 ?_
  refine gToM ?_
  refine gV (pc := 2178) (rest := []) (ci := 2) (q0 := 0) hM (c_X2_mean l D (LM q f g1 σ1) μ Δ x hμ) rfl rfl (cwV 1 hC.2.2.2.2.1 gL_law_X2_mean rfl rfl rfl (by decide +kernel) ⟨Nat.le_of_ble_eq_true rfl, Nat.le_of_ble_eq_true rfl⟩) rfl rfl (Nat.le_of_ble_eq_true rfl) dL_law_2178 ⟨Nat.le_trans (show k + 1 + 0 ≤ k + 8 by omega) hk, Nat.le_trans (show n + 6 + 0 ≤ n + 48 by omega) hn⟩ (fun v w1 hp => ?_)
  have hp : mPostD (LM q f g1 σ1) Δ (Δ) K (fun b => b = meanV (Δ.2.1 (rI x)) (Δ.2.2 (rI x))) v w1 := by rw [hK]; exact hp
  obtain ⟨b1, rfl, μ1, rfl, hmt, h2⟩ := hp
  refine gStk (st' := [.double b1]) (pc' := 2181) rfl rfl ?_
  have hj := wJoin h1 h2
  refine gDstore (pc := 2181) hM (lv' := [(7, .double b1), (6, .int (nI K)), (0, .ref b), (1, .ref (wx q)), (2, .ref (wm q)), (3, .ref (wo q)), (4, .ref (wd q)), (5, .int (nI (4 * t)))]) dL_law_2181 (by decide) rfl ?_
  refine gAloadN (pc := 2183) hM dL_law_2183 rfl 4 rfl ?_
  refine gV (pc := 2184) (rest := []) (ci := 2) (q0 := 0) hM (c_X2_thrown l D (LM q f g1 σ1) μ1) rfl rfl (cwV 0 hC.2.2.2.2.1 gL_law_X2_thrown rfl rfl rfl (by decide +kernel) ⟨Nat.le_of_ble_eq_true rfl, Nat.le_of_ble_eq_true rfl⟩) rfl rfl (Nat.le_of_ble_eq_true rfl) dL_law_2184 ⟨Nat.le_trans (show k + 1 + 0 ≤ k + 8 by omega) hk, Nat.le_trans (show n + 6 + 0 ≤ n + 48 by omega) hn⟩ (fun v w1 hp => ?_)
  obtain ⟨rfl, rfl⟩ := hp
  refine gStk (st' := [.int (mt μ1)]) (pc' := 2187) rfl rfl ?_
  refine gIload (pc := 2187) hM dL_law_2187 1 rfl ?_
  refine gIcmp_eq (tgt := 2194) (pc := 2189) hM dL_law_2189 (by decide) (fun _ => ?_) (fun h => absurd hmt h)
  rcases hj with ⟨hK0, ⟨hcv, hσ1⟩, hvl, hμ1⟩ | ⟨hK1, hσ1, hμ1⟩
  · skip
    refine gIload (pc := 2194) hM dL_law_2194 1 rfl ?_
    refine gIf_ne (tgt := 2231) (pc := 2196) hM dL_law_2196 (by decide) (fun h => absurd (by rw [hK0]; rfl) h) (fun _ => ?_)
    obtain ⟨hcv, hna⟩ := hcv
    have hvb : (g1 0) = b1 := hcv.trans hvl.symm
    refine gAload (pc := 2199) hM dL_law_2199 6 rfl ?_
    refine gIconst (pc := 2201) hM (v := (nI 0)) dL_law_2201 (by decide +kernel) ?_
    refine gDald (pc := 2202) hM 0 rfl (by decide) (by decide) 10 4 rfl rfl rfl dL_law_2202 ?_
    refine gDload (pc := 2203) hM dL_law_2203 0 rfl ?_
    have hxy : g1 0 = b1 := hvb
    refine gDcmp (pc := 2205) hM dL_law_2205 ?_
    refine gIf_eq (tgt := 2231) (pc := 2206) hM dL_law_2206 (by decide) (fun _ => ?_) (fun h => absurd (by rw [← hxy, fp_eq hna]; rfl) h)
    refine gGoto (pc := 2231) hM (tgt := 2915) dL_law_2231 (by decide) ?_
    refine gToC ?_
    refine gLoc (lv' := [(0, .ref b), (1, .ref (wx q)), (2, .ref (wm q)), (3, .ref (wo q)), (4, .ref (wd q)), (5, .int (nI (4 * t)))]) [2, 3, 4, 5, 6, 7] rfl ?_
    exact gWid (show k + 1 + 0 + 0 ≤ k + 8 by omega) (show n + 6 + 0 + 0 ≤ n + 48 by omega) (kk σ1 μ1 f g1 (Δ) hσ1 hμ1)
  · skip
    refine gIload (pc := 2194) hM dL_law_2194 1 rfl ?_
    refine gIf_ne (tgt := 2231) (pc := 2196) hM dL_law_2196 (by decide) (fun _ => ?_) (fun h => absurd h (hKn hK1))
    refine gGoto (pc := 2231) hM (tgt := 2915) dL_law_2231 (by decide) ?_
    refine gToC ?_
    refine gLoc (lv' := [(0, .ref b), (1, .ref (wx q)), (2, .ref (wm q)), (3, .ref (wo q)), (4, .ref (wd q)), (5, .int (nI (4 * t)))]) [2, 3, 4, 5, 6, 7] rfl ?_
    exact gWid (show k + 1 + 0 + 0 ≤ k + 8 by omega) (show n + 6 + 0 + 0 ≤ n + 48 by omega) (kk σ1 μ1 f g1 (Δ) hσ1 hμ1)

set_option maxRecDepth 100000 in
set_option maxHeartbeats 4000000 in
theorem lk_30 {p : Program} {l : Launch} {e : Env} {s : State} {m : MethodId} {args : Array Value} {below : List Frame} {meth : Method} {c : Code} {D : va_G} {A : Nat → Prop} {Q : State → Prop} (q : wLay) {b N : Nat} {xs : Nat → Int32} (hC : gC p s m args meth c cL_law 9 RL wsL_law D (wTy q) A) (hX : va_X b N xs s s.heap ∧ b < s.heap.size ∧ ¬ A b) (hl9 : l.stackTraces = false) (hN : N ≤ 2048) {t k n : Nat} (ht : 4 * t + 4 ≤ N) (hk : k + 8 ≤ 663840) (hn : n + 48 ≤ 7104584) {σ : cSt} {μ : mSt} {f : Nat → Int64} {g : Nat → UInt64} {Δ : dSt} (hσ : cRel σ Δ) (hμ : mRel μ Δ) (x y z : Int32) (hx : xs (4 * t + 1) = x) (hy : xs (4 * t + 2) = y) (hz : xs (4 * t + 3) = z) (kk : ∀ (σ' : cSt) (μ' : mSt) (f' : Nat → Int64) (g' : Nat → UInt64) (Δ' : dSt), cRel σ' Δ' → mRel μ' Δ' → gG p l e room_1 s m args below meth c D A 9 (k + 8) (n + 48) Q (WC (LC q f' g' μ') σ') 2915 [(0, .ref b), (1, .ref (wx q)), (2, .ref (wm q)), (3, .ref (wo q)), (4, .ref (wd q)), (5, .int (nI (4 * t)))] []) : gG p l e room_1 s m args below meth c D A 9 k n Q (WC (LC q f g μ) σ) 2234 [(0, .ref b), (1, .ref (wx q)), (2, .ref (wm q)), (3, .ref (wo q)), (4, .ref (wd q)), (5, .int (nI (4 * t)))] [] := by
  have hM := gCm hC
  refine gAloadN (pc := 2234) hC dL_law_2234 rfl 1 rfl ?_
  refine gAloadN (pc := 2235) hC dL_law_2235 rfl 0 rfl ?_
  refine gIload (pc := 2236) hC dL_law_2236 5 rfl ?_
  refine gIconst (pc := 2238) hC (v := (nI 1)) dL_law_2238 (by decide +kernel) ?_
  refine gIadd (pc := 2239) hC (v := nI (4 * t + 1)) dL_law_2239 (nI_add _ _) ?_
  refine gSld (pc := 2240) hC (v := x) hX (4 * t + 1) rfl (by omega) hN hx dL_law_2240 ?_
  refine gAload (pc := 2241) hC dL_law_2241 4 rfl ?_
  obtain ⟨K, hK⟩ : ∃ K : Nat, K = kk1 (okR x) := ⟨_, rfl⟩
  have hKn : ¬ K = 0 → ¬ nI K = 0 := by rw [hK]; exact kk1_n
  refine gSW (pc := 2243) (rest := []) hC hl9 (c_L_zeros l D q σ μ f g Δ x hσ) (vx_cwSW 3 hC.2.2.2.2.1 gL_law_L_zeros rfl rfl rfl (by decide +kernel) ⟨Nat.le_of_ble_eq_true rfl, Nat.le_of_ble_eq_true rfl⟩) rfl rfl (Nat.le_of_ble_eq_true rfl) dL_law_2243 ⟨Nat.le_trans (Nat.add_le_add_left (by decide) _) hk, Nat.le_trans (Nat.add_le_add_left (by decide) _) hn⟩ (fun v w1 hp => ?_)
  have hp : wPostD q f μ Δ (Δ) K (fun t : UInt64 => ∃ v : UInt32, t = FP.f2d v ∧ (fun b => b = zerosV (Δ.2.1 (rI x)) (Δ.2.2 (rI x))) v ∧ Jvm.FP.Core.dIsNaN t = false) v w1 := by rw [hK]; exact hp
  obtain ⟨rfl, σ1, g1, rfl, h1⟩ := hp
  refine gStk (st' := [.int (nI K)]) (pc' := 2246) rfl rfl ?_
  refine gIstore (pc := 2246) hC (lv' := [(6, .int (nI K)), (0, .ref b), (1, .ref (wx q)), (2, .ref (wm q)), (3, .ref (wo q)), (4, .ref (wd q)), (5, .int (nI (4 * t)))]) dL_law_2246 (by decide) rfl ?_
  refine gAloadN (pc := 2248) hC dL_law_2248 rfl 3 rfl ?_
  refine gAloadN (pc := 2249) hC dL_law_2249 rfl 1 rfl ?_
  refine gIload (pc := 2250) hC dL_law_2250 6 rfl ?_
  refine gIconst (pc := 2252) hC (v := (nI 1)) dL_law_2252 (by decide +kernel) ?_
  refine gIadd (pc := 2253) hC (v := nI (4 * t + 1)) dL_law_2253 (nI_add _ _) ?_
  refine gSld (pc := 2254) hC (v := x) hX (4 * t + 1) rfl (by omega) hN hx dL_law_2254 ?_
  refine gToM ?_
  refine gV (pc := 2255) (rest := []) (ci := 2) (q0 := 0) hM (c_X2_zeros l D (LM q f g1 σ1) μ Δ x hμ) rfl rfl (cwV 1 hC.2.2.2.2.1 gL_law_X2_zeros rfl rfl rfl (by decide +kernel) ⟨Nat.le_of_ble_eq_true rfl, Nat.le_of_ble_eq_true rfl⟩) rfl rfl (Nat.le_of_ble_eq_true rfl) dL_law_2255 ⟨Nat.le_trans (show k + 1 + 0 ≤ k + 8 by omega) hk, Nat.le_trans (show n + 6 + 0 ≤ n + 48 by omega) hn⟩ (fun v w1 hp => ?_)
  have hp : mPostF (LM q f g1 σ1) Δ (Δ) K (fun b => b = zerosV (Δ.2.1 (rI x)) (Δ.2.2 (rI x))) v w1 := by rw [hK]; exact hp
  obtain ⟨b1, rfl, μ1, rfl, hmt, h2⟩ := hp
  refine gStk (st' := [.float b1]) (pc' := 2258) rfl rfl ?_
  have hj := wJoin h1 h2
  refine gFstore (pc := 2258) hM (lv' := [(7, .float b1), (6, .int (nI K)), (0, .ref b), (1, .ref (wx q)), (2, .ref (wm q)), (3, .ref (wo q)), (4, .ref (wd q)), (5, .int (nI (4 * t)))]) dL_law_2258 (by decide) rfl ?_
  refine gAloadN (pc := 2260) hM dL_law_2260 rfl 4 rfl ?_
  refine gV (pc := 2261) (rest := []) (ci := 2) (q0 := 0) hM (c_X2_thrown l D (LM q f g1 σ1) μ1) rfl rfl (cwV 0 hC.2.2.2.2.1 gL_law_X2_thrown rfl rfl rfl (by decide +kernel) ⟨Nat.le_of_ble_eq_true rfl, Nat.le_of_ble_eq_true rfl⟩) rfl rfl (Nat.le_of_ble_eq_true rfl) dL_law_2261 ⟨Nat.le_trans (show k + 1 + 0 ≤ k + 8 by omega) hk, Nat.le_trans (show n + 6 + 0 ≤ n + 48 by omega) hn⟩ (fun v w1 hp => ?_)
  obtain ⟨rfl, rfl⟩ := hp
  refine gStk (st' := [.int (mt μ1)]) (pc' := 2264) rfl rfl ?_
  refine gIload (pc := 2264) hM dL_law_2264 1 rfl ?_
  refine gIcmp_eq (tgt := 2271) (pc := 2266) hM dL_law_2266 (by decide) (fun _ => ?_) (fun h => absurd hmt h)
  rcases hj with ⟨hK0, ⟨hcv, hσ1⟩, hvl, hμ1⟩ | ⟨hK1, hσ1, hμ1⟩
  · skip
    refine gIload (pc := 2271) hM dL_law_2271 1 rfl ?_
    refine gIf_ne (tgt := 2309) (pc := 2273) hM dL_law_2273 (by decide) (fun h => absurd (by rw [hK0]; rfl) h) (fun _ => ?_)
    obtain ⟨v0, hv0, hcv, hna⟩ := hcv
    have hvb : v0 = b1 := hcv.trans hvl.symm
    refine gAload (pc := 2276) hM dL_law_2276 6 rfl ?_
    refine gIconst (pc := 2278) hM (v := (nI 0)) dL_law_2278 (by decide +kernel) ?_
    refine gDald (pc := 2279) hM 0 rfl (by decide) (by decide) 10 4 rfl rfl rfl dL_law_2279 ?_
    refine gFload (pc := 2280) hM dL_law_2280 0 rfl ?_
    refine gF2d (pc := 2282) hM dL_law_2282 (fp_n64 (by rw [← hvb, ← hv0]; exact hna)) ?_
    have hxy : g1 0 = (FP.f2d b1) := by rw [hv0, hvb]
    refine gDcmp (pc := 2283) hM dL_law_2283 ?_
    refine gIf_eq (tgt := 2309) (pc := 2284) hM dL_law_2284 (by decide) (fun _ => ?_) (fun h => absurd (by rw [← hxy, fp_eq hna]; rfl) h)
    refine gGoto (pc := 2309) hM (tgt := 2915) dL_law_2309 (by decide) ?_
    refine gToC ?_
    refine gLoc (lv' := [(0, .ref b), (1, .ref (wx q)), (2, .ref (wm q)), (3, .ref (wo q)), (4, .ref (wd q)), (5, .int (nI (4 * t)))]) [2, 3, 4, 5, 6, 7] rfl ?_
    exact gWid (show k + 1 + 0 + 0 ≤ k + 8 by omega) (show n + 6 + 0 + 0 ≤ n + 48 by omega) (kk σ1 μ1 f g1 (Δ) hσ1 hμ1)
  · skip
    refine gIload (pc := 2271) hM dL_law_2271 1 rfl ?_
    refine gIf_ne (tgt := 2309) (pc := 2273) hM dL_law_2273 (by decide) (fun _ => ?_) (fun h => absurd h (hKn hK1))
    refine gGoto (pc := 2309) hM (tgt := 2915) dL_law_2309 (by decide) ?_
    refine gToC ?_
    refine gLoc (lv' := [(0, .ref b), (1, .ref (wx q)), (2, .ref (wm q)), (3, .ref (wo q)), (4, .ref (wd q)), (5, .int (nI (4 * t)))]) [2, 3, 4, 5, 6, 7] rfl ?_
    exact gWid (show k + 1 + 0 + 0 ≤ k + 8 by omega) (show n + 6 + 0 + 0 ≤ n + 48 by omega) (kk σ1 μ1 f g1 (Δ) hσ1 hμ1)

set_option maxRecDepth 100000 in
set_option maxHeartbeats 4000000 in
theorem lk_31 {p : Program} {l : Launch} {e : Env} {s : State} {m : MethodId} {args : Array Value} {below : List Frame} {meth : Method} {c : Code} {D : va_G} {A : Nat → Prop} {Q : State → Prop} (q : wLay) {b N : Nat} {xs : Nat → Int32} (hC : gC p s m args meth c cL_law 9 RL wsL_law D (wTy q) A) (hX : va_X b N xs s s.heap ∧ b < s.heap.size ∧ ¬ A b) (hl9 : l.stackTraces = false) (hN : N ≤ 2048) {t k n : Nat} (ht : 4 * t + 4 ≤ N) (hk : k + 8 ≤ 663840) (hn : n + 48 ≤ 7104584) {σ : cSt} {μ : mSt} {f : Nat → Int64} {g : Nat → UInt64} {Δ : dSt} (hσ : cRel σ Δ) (hμ : mRel μ Δ) (x y z : Int32) (hx : xs (4 * t + 1) = x) (hy : xs (4 * t + 2) = y) (hz : xs (4 * t + 3) = z) (kk : ∀ (σ' : cSt) (μ' : mSt) (f' : Nat → Int64) (g' : Nat → UInt64) (Δ' : dSt), cRel σ' Δ' → mRel μ' Δ' → gG p l e room_1 s m args below meth c D A 9 (k + 8) (n + 48) Q (WC (LC q f' g' μ') σ') 2915 [(0, .ref b), (1, .ref (wx q)), (2, .ref (wm q)), (3, .ref (wo q)), (4, .ref (wd q)), (5, .int (nI (4 * t)))] []) : gG p l e room_1 s m args below meth c D A 9 k n Q (WC (LC q f g μ) σ) 2312 [(0, .ref b), (1, .ref (wx q)), (2, .ref (wm q)), (3, .ref (wo q)), (4, .ref (wd q)), (5, .int (nI (4 * t)))] [] := by
  have hM := gCm hC
  refine gAloadN (pc := 2312) hC dL_law_2312 rfl 1 rfl ?_
  refine gAloadN (pc := 2313) hC dL_law_2313 rfl 0 rfl ?_
  refine gIload (pc := 2314) hC dL_law_2314 5 rfl ?_
  refine gIconst (pc := 2316) hC (v := (nI 1)) dL_law_2316 (by decide +kernel) ?_
  refine gIadd (pc := 2317) hC (v := nI (4 * t + 1)) dL_law_2317 (nI_add _ _) ?_
  refine gSld (pc := 2318) hC (v := x) hX (4 * t + 1) rfl (by omega) hN hx dL_law_2318 ?_
  refine gAloadN (pc := 2319) hC dL_law_2319 rfl 3 rfl ?_
  obtain ⟨K, hK⟩ : ∃ K : Nat, K = kk1 (okR x) := ⟨_, rfl⟩
  have hKn : ¬ K = 0 → ¬ nI K = 0 := by rw [hK]; exact kk1_n
  refine gSW (pc := 2320) (rest := []) hC hl9 (c_L_isBack l D q σ μ f g Δ x hσ) (vx_cwSW 3 hC.2.2.2.2.1 gL_law_L_isBack rfl rfl rfl (by decide +kernel) ⟨Nat.le_of_ble_eq_true rfl, Nat.le_of_ble_eq_true rfl⟩) rfl rfl (Nat.le_of_ble_eq_true rfl) dL_law_2320 ⟨Nat.le_trans (Nat.add_le_add_left (by decide) _) hk, Nat.le_trans (Nat.add_le_add_left (by decide) _) hn⟩ (fun v w1 hp => ?_)
  have hp : wPost q g μ Δ (Δ) K (fun t : Int64 => ∃ v : Int32, t = bl v ∧ (fun b => b = nI 1) v) v w1 := by rw [hK]; exact hp
  obtain ⟨rfl, σ1, f1, rfl, h1⟩ := hp
  refine gStk (st' := [.int (nI K)]) (pc' := 2323) rfl rfl ?_
  refine gIstore (pc := 2323) hC (lv' := [(6, .int (nI K)), (0, .ref b), (1, .ref (wx q)), (2, .ref (wm q)), (3, .ref (wo q)), (4, .ref (wd q)), (5, .int (nI (4 * t)))]) dL_law_2323 (by decide) rfl ?_
  refine gAloadN (pc := 2325) hC dL_law_2325 rfl 3 rfl ?_
  refine gAloadN (pc := 2326) hC dL_law_2326 rfl 1 rfl ?_
  refine gIload (pc := 2327) hC dL_law_2327 6 rfl ?_
  refine gIconst (pc := 2329) hC (v := (nI 1)) dL_law_2329 (by decide +kernel) ?_
  refine gIadd (pc := 2330) hC (v := nI (4 * t + 1)) dL_law_2330 (nI_add _ _) ?_
  refine gSld (pc := 2331) hC (v := x) hX (4 * t + 1) rfl (by omega) hN hx dL_law_2331 ?_
  refine gToM ?_
  refine gV (pc := 2332) (rest := []) (ci := 2) (q0 := 0) hM (c_X2_isBack l D (LM q f1 g σ1) μ Δ x hμ) rfl rfl (cwV 1 hC.2.2.2.2.1 gL_law_X2_isBack rfl rfl rfl (by decide +kernel) ⟨Nat.le_of_ble_eq_true rfl, Nat.le_of_ble_eq_true rfl⟩) rfl rfl (Nat.le_of_ble_eq_true rfl) dL_law_2332 ⟨Nat.le_trans (show k + 1 + 0 ≤ k + 8 by omega) hk, Nat.le_trans (show n + 6 + 0 ≤ n + 48 by omega) hn⟩ (fun v w1 hp => ?_)
  have hp : mPost (LM q f1 g σ1) Δ (Δ) K (fun b => b = nI 1) v w1 := by rw [hK]; exact hp
  obtain ⟨b1, rfl, μ1, rfl, hmt, h2⟩ := hp
  refine gStk (st' := [.int b1]) (pc' := 2335) rfl rfl ?_
  have hj := wJoin h1 h2
  refine gIstore (pc := 2335) hM (lv' := [(7, .int b1), (6, .int (nI K)), (0, .ref b), (1, .ref (wx q)), (2, .ref (wm q)), (3, .ref (wo q)), (4, .ref (wd q)), (5, .int (nI (4 * t)))]) dL_law_2335 (by decide) rfl ?_
  refine gAloadN (pc := 2337) hM dL_law_2337 rfl 4 rfl ?_
  refine gV (pc := 2338) (rest := []) (ci := 2) (q0 := 0) hM (c_X2_thrown l D (LM q f1 g σ1) μ1) rfl rfl (cwV 0 hC.2.2.2.2.1 gL_law_X2_thrown rfl rfl rfl (by decide +kernel) ⟨Nat.le_of_ble_eq_true rfl, Nat.le_of_ble_eq_true rfl⟩) rfl rfl (Nat.le_of_ble_eq_true rfl) dL_law_2338 ⟨Nat.le_trans (show k + 1 + 0 ≤ k + 8 by omega) hk, Nat.le_trans (show n + 6 + 0 ≤ n + 48 by omega) hn⟩ (fun v w1 hp => ?_)
  obtain ⟨rfl, rfl⟩ := hp
  refine gStk (st' := [.int (mt μ1)]) (pc' := 2341) rfl rfl ?_
  refine gIload (pc := 2341) hM dL_law_2341 1 rfl ?_
  refine gIcmp_eq (tgt := 2348) (pc := 2343) hM dL_law_2343 (by decide) (fun _ => ?_) (fun h => absurd hmt h)
  rcases hj with ⟨hK0, ⟨hcv, hσ1⟩, hvl, hμ1⟩ | ⟨hK1, hσ1, hμ1⟩
  · skip
    refine gIload (pc := 2348) hM dL_law_2348 1 rfl ?_
    refine gIf_ne (tgt := 2372) (pc := 2350) hM dL_law_2350 (by decide) (fun h => absurd (by rw [hK0]; rfl) h) (fun _ => ?_)
    obtain ⟨v0, hv0, hcv⟩ := hcv
    have hvb : v0 = b1 := hcv.trans hvl.symm
    refine gAloadN (pc := 2353) hM dL_law_2353 rfl 5 rfl ?_
    refine gIconst (pc := 2354) hM (v := (nI 0)) dL_law_2354 (by decide +kernel) ?_
    refine gLald (pc := 2355) hM 0 rfl (by decide) (by decide) 9 3 rfl rfl rfl dL_law_2355 ?_
    refine gIload (pc := 2356) hM dL_law_2356 0 rfl ?_
    refine gNl hM 2358 dL_law_2358 dL_law_2361 dL_law_2362 dL_law_2365 ?_
    refine gStk (st' := [.long (bl b1), .long (f1 0)]) (pc' := 2366) rfl rfl ?_
    refine gLcmp (v := nI 0) (pc := 2366) hM dL_law_2366 (by rw [hv0, hvb]; exact lg_cmp_self _) ?_
    refine gIf_eq (tgt := 2372) (pc := 2367) hM dL_law_2367 (by decide) (fun _ => ?_) (fun h => absurd rfl h)
    refine gGoto (pc := 2372) hM (tgt := 2915) dL_law_2372 (by decide) ?_
    refine gToC ?_
    refine gLoc (lv' := [(0, .ref b), (1, .ref (wx q)), (2, .ref (wm q)), (3, .ref (wo q)), (4, .ref (wd q)), (5, .int (nI (4 * t)))]) [2, 3, 4, 5, 6, 7] rfl ?_
    exact gWid (show k + 1 + 0 + 0 ≤ k + 8 by omega) (show n + 6 + 0 + 0 ≤ n + 48 by omega) (kk σ1 μ1 f1 g (Δ) hσ1 hμ1)
  · skip
    refine gIload (pc := 2348) hM dL_law_2348 1 rfl ?_
    refine gIf_ne (tgt := 2372) (pc := 2350) hM dL_law_2350 (by decide) (fun _ => ?_) (fun h => absurd h (hKn hK1))
    refine gGoto (pc := 2372) hM (tgt := 2915) dL_law_2372 (by decide) ?_
    refine gToC ?_
    refine gLoc (lv' := [(0, .ref b), (1, .ref (wx q)), (2, .ref (wm q)), (3, .ref (wo q)), (4, .ref (wd q)), (5, .int (nI (4 * t)))]) [2, 3, 4, 5, 6, 7] rfl ?_
    exact gWid (show k + 1 + 0 + 0 ≤ k + 8 by omega) (show n + 6 + 0 + 0 ≤ n + 48 by omega) (kk σ1 μ1 f1 g (Δ) hσ1 hμ1)

set_option maxRecDepth 100000 in
set_option maxHeartbeats 4000000 in
theorem lk_32 {p : Program} {l : Launch} {e : Env} {s : State} {m : MethodId} {args : Array Value} {below : List Frame} {meth : Method} {c : Code} {D : va_G} {A : Nat → Prop} {Q : State → Prop} (q : wLay) {b N : Nat} {xs : Nat → Int32} (hC : gC p s m args meth c cL_law 9 RL wsL_law D (wTy q) A) (hX : va_X b N xs s s.heap ∧ b < s.heap.size ∧ ¬ A b) (hl9 : l.stackTraces = false) (hN : N ≤ 2048) {t k n : Nat} (ht : 4 * t + 4 ≤ N) (hk : k + 8 ≤ 663840) (hn : n + 48 ≤ 7104584) {σ : cSt} {μ : mSt} {f : Nat → Int64} {g : Nat → UInt64} {Δ : dSt} (hσ : cRel σ Δ) (hμ : mRel μ Δ) (x y z : Int32) (hx : xs (4 * t + 1) = x) (hy : xs (4 * t + 2) = y) (hz : xs (4 * t + 3) = z) (kk : ∀ (σ' : cSt) (μ' : mSt) (f' : Nat → Int64) (g' : Nat → UInt64) (Δ' : dSt), cRel σ' Δ' → mRel μ' Δ' → gG p l e room_1 s m args below meth c D A 9 (k + 8) (n + 48) Q (WC (LC q f' g' μ') σ') 2915 [(0, .ref b), (1, .ref (wx q)), (2, .ref (wm q)), (3, .ref (wo q)), (4, .ref (wd q)), (5, .int (nI (4 * t)))] []) : gG p l e room_1 s m args below meth c D A 9 k n Q (WC (LC q f g μ) σ) 2375 [(0, .ref b), (1, .ref (wx q)), (2, .ref (wm q)), (3, .ref (wo q)), (4, .ref (wd q)), (5, .int (nI (4 * t)))] [] := by
  have hM := gCm hC
  refine gAloadN (pc := 2375) hC dL_law_2375 rfl 1 rfl ?_
  refine gAloadN (pc := 2376) hC dL_law_2376 rfl 0 rfl ?_
  refine gIload (pc := 2377) hC dL_law_2377 5 rfl ?_
  refine gIconst (pc := 2379) hC (v := (nI 1)) dL_law_2379 (by decide +kernel) ?_
  refine gIadd (pc := 2380) hC (v := nI (4 * t + 1)) dL_law_2380 (nI_add _ _) ?_
  refine gSld (pc := 2381) hC (v := x) hX (4 * t + 1) rfl (by omega) hN hx dL_law_2381 ?_
  refine gAloadN (pc := 2382) hC dL_law_2382 rfl 0 rfl ?_
  refine gIload (pc := 2383) hC dL_law_2383 5 rfl ?_
  refine gIconst (pc := 2385) hC (v := (nI 2)) dL_law_2385 (by decide +kernel) ?_
  refine gIadd (pc := 2386) hC (v := nI (4 * t + 2)) dL_law_2386 (nI_add _ _) ?_
  refine gSld (pc := 2387) hC (v := y) hX (4 * t + 2) rfl (by omega) hN hy dL_law_2387 ?_
  refine gAloadN (pc := 2388) hC dL_law_2388 rfl 3 rfl ?_
  obtain ⟨K, hK⟩ : ∃ K : Nat, K = kk2 (okR x ∧ okR y) ((Δ.2.1 (rI x)) = (Δ.2.1 (rI y))) := ⟨_, rfl⟩
  have hKn : ¬ K = 0 → ¬ nI K = 0 := by rw [hK]; exact kk2_n
  refine gSW (pc := 2389) (rest := []) hC hl9 (c_L_isProduct l D q σ μ f g Δ x y hσ) (vx_cwSW 4 hC.2.2.2.2.1 gL_law_L_isProduct rfl rfl rfl (by decide +kernel) ⟨Nat.le_of_ble_eq_true rfl, Nat.le_of_ble_eq_true rfl⟩) rfl rfl (Nat.le_of_ble_eq_true rfl) dL_law_2389 ⟨Nat.le_trans (Nat.add_le_add_left (by decide) _) hk, Nat.le_trans (Nat.add_le_add_left (by decide) _) hn⟩ (fun v w1 hp => ?_)
  have hp : wPost q g μ Δ (Δ) K (fun t : Int64 => ∃ v : Int32, t = bl v ∧ (fun b => b = nI 1) v) v w1 := by rw [hK]; exact hp
  obtain ⟨rfl, σ1, f1, rfl, h1⟩ := hp
  refine gStk (st' := [.int (nI K)]) (pc' := 2392) rfl rfl ?_
  refine gIstore (pc := 2392) hC (lv' := [(6, .int (nI K)), (0, .ref b), (1, .ref (wx q)), (2, .ref (wm q)), (3, .ref (wo q)), (4, .ref (wd q)), (5, .int (nI (4 * t)))]) dL_law_2392 (by decide) rfl ?_
  refine gAloadN (pc := 2394) hC dL_law_2394 rfl 3 rfl ?_
  refine gAloadN (pc := 2395) hC dL_law_2395 rfl 1 rfl ?_
  refine gIload (pc := 2396) hC dL_law_2396 6 rfl ?_
  refine gIconst (pc := 2398) hC (v := (nI 1)) dL_law_2398 (by decide +kernel) ?_
  refine gIadd (pc := 2399) hC (v := nI (4 * t + 1)) dL_law_2399 (nI_add _ _) ?_
  refine gSld (pc := 2400) hC (v := x) hX (4 * t + 1) rfl (by omega) hN hx dL_law_2400 ?_
  refine gAloadN (pc := 2401) hC dL_law_2401 rfl 1 rfl ?_
  refine gIload (pc := 2402) hC dL_law_2402 6 rfl ?_
  refine gIconst (pc := 2404) hC (v := (nI 2)) dL_law_2404 (by decide +kernel) ?_
  refine gIadd (pc := 2405) hC (v := nI (4 * t + 2)) dL_law_2405 (nI_add _ _) ?_
  refine gSld (pc := 2406) hC (v := y) hX (4 * t + 2) rfl (by omega) hN hy dL_law_2406 ?_
  refine gToM ?_
  refine gV (pc := 2407) (rest := []) (ci := 2) (q0 := 0) hM (c_X2_isProduct l D (LM q f1 g σ1) μ Δ x y hμ) rfl rfl (cwV 2 hC.2.2.2.2.1 gL_law_X2_isProduct rfl rfl rfl (by decide +kernel) ⟨Nat.le_of_ble_eq_true rfl, Nat.le_of_ble_eq_true rfl⟩) rfl rfl (Nat.le_of_ble_eq_true rfl) dL_law_2407 ⟨Nat.le_trans (show k + 3 + 0 ≤ k + 8 by omega) hk, Nat.le_trans (show n + 18 + 0 ≤ n + 48 by omega) hn⟩ (fun v w1 hp => ?_)
  have hp : mPost (LM q f1 g σ1) Δ (Δ) K (fun b => b = nI 1) v w1 := by rw [hK]; exact hp
  obtain ⟨b1, rfl, μ1, rfl, hmt, h2⟩ := hp
  refine gStk (st' := [.int b1]) (pc' := 2410) rfl rfl ?_
  have hj := wJoin h1 h2
  refine gIstore (pc := 2410) hM (lv' := [(7, .int b1), (6, .int (nI K)), (0, .ref b), (1, .ref (wx q)), (2, .ref (wm q)), (3, .ref (wo q)), (4, .ref (wd q)), (5, .int (nI (4 * t)))]) dL_law_2410 (by decide) rfl ?_
  refine gAloadN (pc := 2412) hM dL_law_2412 rfl 4 rfl ?_
  refine gV (pc := 2413) (rest := []) (ci := 2) (q0 := 0) hM (c_X2_thrown l D (LM q f1 g σ1) μ1) rfl rfl (cwV 0 hC.2.2.2.2.1 gL_law_X2_thrown rfl rfl rfl (by decide +kernel) ⟨Nat.le_of_ble_eq_true rfl, Nat.le_of_ble_eq_true rfl⟩) rfl rfl (Nat.le_of_ble_eq_true rfl) dL_law_2413 ⟨Nat.le_trans (show k + 3 + 0 ≤ k + 8 by omega) hk, Nat.le_trans (show n + 18 + 0 ≤ n + 48 by omega) hn⟩ (fun v w1 hp => ?_)
  obtain ⟨rfl, rfl⟩ := hp
  refine gStk (st' := [.int (mt μ1)]) (pc' := 2416) rfl rfl ?_
  refine gIload (pc := 2416) hM dL_law_2416 1 rfl ?_
  refine gIcmp_eq (tgt := 2423) (pc := 2418) hM dL_law_2418 (by decide) (fun _ => ?_) (fun h => absurd hmt h)
  rcases hj with ⟨hK0, ⟨hcv, hσ1⟩, hvl, hμ1⟩ | ⟨hK1, hσ1, hμ1⟩
  · skip
    refine gIload (pc := 2423) hM dL_law_2423 1 rfl ?_
    refine gIf_ne (tgt := 2447) (pc := 2425) hM dL_law_2425 (by decide) (fun h => absurd (by rw [hK0]; rfl) h) (fun _ => ?_)
    obtain ⟨v0, hv0, hcv⟩ := hcv
    have hvb : v0 = b1 := hcv.trans hvl.symm
    refine gAloadN (pc := 2428) hM dL_law_2428 rfl 5 rfl ?_
    refine gIconst (pc := 2429) hM (v := (nI 0)) dL_law_2429 (by decide +kernel) ?_
    refine gLald (pc := 2430) hM 0 rfl (by decide) (by decide) 9 3 rfl rfl rfl dL_law_2430 ?_
    refine gIload (pc := 2431) hM dL_law_2431 0 rfl ?_
    refine gNl hM 2433 dL_law_2433 dL_law_2436 dL_law_2437 dL_law_2440 ?_
    refine gStk (st' := [.long (bl b1), .long (f1 0)]) (pc' := 2441) rfl rfl ?_
    refine gLcmp (v := nI 0) (pc := 2441) hM dL_law_2441 (by rw [hv0, hvb]; exact lg_cmp_self _) ?_
    refine gIf_eq (tgt := 2447) (pc := 2442) hM dL_law_2442 (by decide) (fun _ => ?_) (fun h => absurd rfl h)
    refine gGoto (pc := 2447) hM (tgt := 2915) dL_law_2447 (by decide) ?_
    refine gToC ?_
    refine gLoc (lv' := [(0, .ref b), (1, .ref (wx q)), (2, .ref (wm q)), (3, .ref (wo q)), (4, .ref (wd q)), (5, .int (nI (4 * t)))]) [2, 3, 4, 5, 6, 7] rfl ?_
    exact gWid (show k + 3 + 0 + 0 ≤ k + 8 by omega) (show n + 18 + 0 + 0 ≤ n + 48 by omega) (kk σ1 μ1 f1 g (Δ) hσ1 hμ1)
  · skip
    refine gIload (pc := 2423) hM dL_law_2423 1 rfl ?_
    refine gIf_ne (tgt := 2447) (pc := 2425) hM dL_law_2425 (by decide) (fun _ => ?_) (fun h => absurd h (hKn hK1))
    refine gGoto (pc := 2447) hM (tgt := 2915) dL_law_2447 (by decide) ?_
    refine gToC ?_
    refine gLoc (lv' := [(0, .ref b), (1, .ref (wx q)), (2, .ref (wm q)), (3, .ref (wo q)), (4, .ref (wd q)), (5, .int (nI (4 * t)))]) [2, 3, 4, 5, 6, 7] rfl ?_
    exact gWid (show k + 3 + 0 + 0 ≤ k + 8 by omega) (show n + 18 + 0 + 0 ≤ n + 48 by omega) (kk σ1 μ1 f1 g (Δ) hσ1 hμ1)

set_option maxRecDepth 100000 in
set_option maxHeartbeats 4000000 in
theorem lk_33 {p : Program} {l : Launch} {e : Env} {s : State} {m : MethodId} {args : Array Value} {below : List Frame} {meth : Method} {c : Code} {D : va_G} {A : Nat → Prop} {Q : State → Prop} (q : wLay) {b N : Nat} {xs : Nat → Int32} (hC : gC p s m args meth c cL_law 9 RL wsL_law D (wTy q) A) (hX : va_X b N xs s s.heap ∧ b < s.heap.size ∧ ¬ A b) (hl9 : l.stackTraces = false) (hN : N ≤ 2048) {t k n : Nat} (ht : 4 * t + 4 ≤ N) (hk : k + 8 ≤ 663840) (hn : n + 48 ≤ 7104584) {σ : cSt} {μ : mSt} {f : Nat → Int64} {g : Nat → UInt64} {Δ : dSt} (hσ : cRel σ Δ) (hμ : mRel μ Δ) (x y z : Int32) (hx : xs (4 * t + 1) = x) (hy : xs (4 * t + 2) = y) (hz : xs (4 * t + 3) = z) (kk : ∀ (σ' : cSt) (μ' : mSt) (f' : Nat → Int64) (g' : Nat → UInt64) (Δ' : dSt), cRel σ' Δ' → mRel μ' Δ' → gG p l e room_1 s m args below meth c D A 9 (k + 8) (n + 48) Q (WC (LC q f' g' μ') σ') 2915 [(0, .ref b), (1, .ref (wx q)), (2, .ref (wm q)), (3, .ref (wo q)), (4, .ref (wd q)), (5, .int (nI (4 * t)))] []) : gG p l e room_1 s m args below meth c D A 9 k n Q (WC (LC q f g μ) σ) 2450 [(0, .ref b), (1, .ref (wx q)), (2, .ref (wm q)), (3, .ref (wo q)), (4, .ref (wd q)), (5, .int (nI (4 * t)))] [] := by
  have hM := gCm hC
  refine gAloadN (pc := 2450) hC dL_law_2450 rfl 1 rfl ?_
  refine gAloadN (pc := 2451) hC dL_law_2451 rfl 0 rfl ?_
  refine gIload (pc := 2452) hC dL_law_2452 5 rfl ?_
  refine gIconst (pc := 2454) hC (v := (nI 1)) dL_law_2454 (by decide +kernel) ?_
  refine gIadd (pc := 2455) hC (v := nI (4 * t + 1)) dL_law_2455 (nI_add _ _) ?_
  refine gSld (pc := 2456) hC (v := x) hX (4 * t + 1) rfl (by omega) hN hx dL_law_2456 ?_
  refine gAloadN (pc := 2457) hC dL_law_2457 rfl 0 rfl ?_
  refine gIload (pc := 2458) hC dL_law_2458 5 rfl ?_
  refine gIconst (pc := 2460) hC (v := (nI 2)) dL_law_2460 (by decide +kernel) ?_
  refine gIadd (pc := 2461) hC (v := nI (4 * t + 2)) dL_law_2461 (nI_add _ _) ?_
  refine gSld (pc := 2462) hC (v := y) hX (4 * t + 2) rfl (by omega) hN hy dL_law_2462 ?_
  refine gAloadN (pc := 2463) hC dL_law_2463 rfl 3 rfl ?_
  obtain ⟨K, hK⟩ : ∃ K : Nat, K = kk2 (okR x ∧ okR y) ((Δ.2.1 (rI x)) = (Δ.2.1 (rI y)) ∧ (Δ.2.1 (rI x)) < 16) := ⟨_, rfl⟩
  have hKn : ¬ K = 0 → ¬ nI K = 0 := by rw [hK]; exact kk2_n
  refine gSW (pc := 2464) (rest := []) hC hl9 (c_L_isPlain l D q σ μ f g Δ x y hσ) (vx_cwSW 4 hC.2.2.2.2.1 gL_law_L_isPlain rfl rfl rfl (by decide +kernel) ⟨Nat.le_of_ble_eq_true rfl, Nat.le_of_ble_eq_true rfl⟩) rfl rfl (Nat.le_of_ble_eq_true rfl) dL_law_2464 ⟨Nat.le_trans (Nat.add_le_add_left (by decide) _) hk, Nat.le_trans (Nat.add_le_add_left (by decide) _) hn⟩ (fun v w1 hp => ?_)
  have hp : wPost q g μ Δ (Δ) K (fun t : Int64 => ∃ v : Int32, t = bl v ∧ (fun b => b = nI 1) v) v w1 := by rw [hK]; exact hp
  obtain ⟨rfl, σ1, f1, rfl, h1⟩ := hp
  refine gStk (st' := [.int (nI K)]) (pc' := 2467) rfl rfl ?_
  refine gIstore (pc := 2467) hC (lv' := [(6, .int (nI K)), (0, .ref b), (1, .ref (wx q)), (2, .ref (wm q)), (3, .ref (wo q)), (4, .ref (wd q)), (5, .int (nI (4 * t)))]) dL_law_2467 (by decide) rfl ?_
  refine gAloadN (pc := 2469) hC dL_law_2469 rfl 3 rfl ?_
  refine gAloadN (pc := 2470) hC dL_law_2470 rfl 1 rfl ?_
  refine gIload (pc := 2471) hC dL_law_2471 6 rfl ?_
  refine gIconst (pc := 2473) hC (v := (nI 1)) dL_law_2473 (by decide +kernel) ?_
  refine gIadd (pc := 2474) hC (v := nI (4 * t + 1)) dL_law_2474 (nI_add _ _) ?_
  refine gSld (pc := 2475) hC (v := x) hX (4 * t + 1) rfl (by omega) hN hx dL_law_2475 ?_
  refine gAloadN (pc := 2476) hC dL_law_2476 rfl 1 rfl ?_
  refine gIload (pc := 2477) hC dL_law_2477 6 rfl ?_
  refine gIconst (pc := 2479) hC (v := (nI 2)) dL_law_2479 (by decide +kernel) ?_
  refine gIadd (pc := 2480) hC (v := nI (4 * t + 2)) dL_law_2480 (nI_add _ _) ?_
  refine gSld (pc := 2481) hC (v := y) hX (4 * t + 2) rfl (by omega) hN hy dL_law_2481 ?_
  refine gToM ?_
  refine gV (pc := 2482) (rest := []) (ci := 2) (q0 := 0) hM (c_X2_isPlain l D (LM q f1 g σ1) μ Δ x y hμ) rfl rfl (cwV 2 hC.2.2.2.2.1 gL_law_X2_isPlain rfl rfl rfl (by decide +kernel) ⟨Nat.le_of_ble_eq_true rfl, Nat.le_of_ble_eq_true rfl⟩) rfl rfl (Nat.le_of_ble_eq_true rfl) dL_law_2482 ⟨Nat.le_trans (show k + 4 + 0 ≤ k + 8 by omega) hk, Nat.le_trans (show n + 24 + 0 ≤ n + 48 by omega) hn⟩ (fun v w1 hp => ?_)
  have hp : mPost (LM q f1 g σ1) Δ (Δ) K (fun b => b = nI 1) v w1 := by rw [hK]; exact hp
  obtain ⟨b1, rfl, μ1, rfl, hmt, h2⟩ := hp
  refine gStk (st' := [.int b1]) (pc' := 2485) rfl rfl ?_
  have hj := wJoin h1 h2
  refine gIstore (pc := 2485) hM (lv' := [(7, .int b1), (6, .int (nI K)), (0, .ref b), (1, .ref (wx q)), (2, .ref (wm q)), (3, .ref (wo q)), (4, .ref (wd q)), (5, .int (nI (4 * t)))]) dL_law_2485 (by decide) rfl ?_
  refine gAloadN (pc := 2487) hM dL_law_2487 rfl 4 rfl ?_
  refine gV (pc := 2488) (rest := []) (ci := 2) (q0 := 0) hM (c_X2_thrown l D (LM q f1 g σ1) μ1) rfl rfl (cwV 0 hC.2.2.2.2.1 gL_law_X2_thrown rfl rfl rfl (by decide +kernel) ⟨Nat.le_of_ble_eq_true rfl, Nat.le_of_ble_eq_true rfl⟩) rfl rfl (Nat.le_of_ble_eq_true rfl) dL_law_2488 ⟨Nat.le_trans (show k + 4 + 0 ≤ k + 8 by omega) hk, Nat.le_trans (show n + 24 + 0 ≤ n + 48 by omega) hn⟩ (fun v w1 hp => ?_)
  obtain ⟨rfl, rfl⟩ := hp
  refine gStk (st' := [.int (mt μ1)]) (pc' := 2491) rfl rfl ?_
  refine gIload (pc := 2491) hM dL_law_2491 1 rfl ?_
  refine gIcmp_eq (tgt := 2498) (pc := 2493) hM dL_law_2493 (by decide) (fun _ => ?_) (fun h => absurd hmt h)
  rcases hj with ⟨hK0, ⟨hcv, hσ1⟩, hvl, hμ1⟩ | ⟨hK1, hσ1, hμ1⟩
  · skip
    refine gIload (pc := 2498) hM dL_law_2498 1 rfl ?_
    refine gIf_ne (tgt := 2522) (pc := 2500) hM dL_law_2500 (by decide) (fun h => absurd (by rw [hK0]; rfl) h) (fun _ => ?_)
    obtain ⟨v0, hv0, hcv⟩ := hcv
    have hvb : v0 = b1 := hcv.trans hvl.symm
    refine gAloadN (pc := 2503) hM dL_law_2503 rfl 5 rfl ?_
    refine gIconst (pc := 2504) hM (v := (nI 0)) dL_law_2504 (by decide +kernel) ?_
    refine gLald (pc := 2505) hM 0 rfl (by decide) (by decide) 9 3 rfl rfl rfl dL_law_2505 ?_
    refine gIload (pc := 2506) hM dL_law_2506 0 rfl ?_
    refine gNl hM 2508 dL_law_2508 dL_law_2511 dL_law_2512 dL_law_2515 ?_
    refine gStk (st' := [.long (bl b1), .long (f1 0)]) (pc' := 2516) rfl rfl ?_
    refine gLcmp (v := nI 0) (pc := 2516) hM dL_law_2516 (by rw [hv0, hvb]; exact lg_cmp_self _) ?_
    refine gIf_eq (tgt := 2522) (pc := 2517) hM dL_law_2517 (by decide) (fun _ => ?_) (fun h => absurd rfl h)
    refine gGoto (pc := 2522) hM (tgt := 2915) dL_law_2522 (by decide) ?_
    refine gToC ?_
    refine gLoc (lv' := [(0, .ref b), (1, .ref (wx q)), (2, .ref (wm q)), (3, .ref (wo q)), (4, .ref (wd q)), (5, .int (nI (4 * t)))]) [2, 3, 4, 5, 6, 7] rfl ?_
    exact gWid (show k + 4 + 0 + 0 ≤ k + 8 by omega) (show n + 24 + 0 + 0 ≤ n + 48 by omega) (kk σ1 μ1 f1 g (Δ) hσ1 hμ1)
  · skip
    refine gIload (pc := 2498) hM dL_law_2498 1 rfl ?_
    refine gIf_ne (tgt := 2522) (pc := 2500) hM dL_law_2500 (by decide) (fun _ => ?_) (fun h => absurd h (hKn hK1))
    refine gGoto (pc := 2522) hM (tgt := 2915) dL_law_2522 (by decide) ?_
    refine gToC ?_
    refine gLoc (lv' := [(0, .ref b), (1, .ref (wx q)), (2, .ref (wm q)), (3, .ref (wo q)), (4, .ref (wd q)), (5, .int (nI (4 * t)))]) [2, 3, 4, 5, 6, 7] rfl ?_
    exact gWid (show k + 4 + 0 + 0 ≤ k + 8 by omega) (show n + 24 + 0 + 0 ≤ n + 48 by omega) (kk σ1 μ1 f1 g (Δ) hσ1 hμ1)

set_option maxRecDepth 100000 in
set_option maxHeartbeats 4000000 in
theorem lk_34 {p : Program} {l : Launch} {e : Env} {s : State} {m : MethodId} {args : Array Value} {below : List Frame} {meth : Method} {c : Code} {D : va_G} {A : Nat → Prop} {Q : State → Prop} (q : wLay) {b N : Nat} {xs : Nat → Int32} (hC : gC p s m args meth c cL_law 9 RL wsL_law D (wTy q) A) (hX : va_X b N xs s s.heap ∧ b < s.heap.size ∧ ¬ A b) (hl9 : l.stackTraces = false) (hN : N ≤ 2048) {t k n : Nat} (ht : 4 * t + 4 ≤ N) (hk : k + 8 ≤ 663840) (hn : n + 48 ≤ 7104584) {σ : cSt} {μ : mSt} {f : Nat → Int64} {g : Nat → UInt64} {Δ : dSt} (hσ : cRel σ Δ) (hμ : mRel μ Δ) (x y z : Int32) (hx : xs (4 * t + 1) = x) (hy : xs (4 * t + 2) = y) (hz : xs (4 * t + 3) = z) (kk : ∀ (σ' : cSt) (μ' : mSt) (f' : Nat → Int64) (g' : Nat → UInt64) (Δ' : dSt), cRel σ' Δ' → mRel μ' Δ' → gG p l e room_1 s m args below meth c D A 9 (k + 8) (n + 48) Q (WC (LC q f' g' μ') σ') 2915 [(0, .ref b), (1, .ref (wx q)), (2, .ref (wm q)), (3, .ref (wo q)), (4, .ref (wd q)), (5, .int (nI (4 * t)))] []) : gG p l e room_1 s m args below meth c D A 9 k n Q (WC (LC q f g μ) σ) 2525 [(0, .ref b), (1, .ref (wx q)), (2, .ref (wm q)), (3, .ref (wo q)), (4, .ref (wd q)), (5, .int (nI (4 * t)))] [] := by
  have hM := gCm hC
  refine gAloadN (pc := 2525) hC dL_law_2525 rfl 1 rfl ?_
  refine gAloadN (pc := 2526) hC dL_law_2526 rfl 0 rfl ?_
  refine gIload (pc := 2527) hC dL_law_2527 5 rfl ?_
  refine gIconst (pc := 2529) hC (v := (nI 1)) dL_law_2529 (by decide +kernel) ?_
  refine gIadd (pc := 2530) hC (v := nI (4 * t + 1)) dL_law_2530 (nI_add _ _) ?_
  refine gSld (pc := 2531) hC (v := x) hX (4 * t + 1) rfl (by omega) hN hx dL_law_2531 ?_
  refine gAloadN (pc := 2532) hC dL_law_2532 rfl 0 rfl ?_
  refine gIload (pc := 2533) hC dL_law_2533 5 rfl ?_
  refine gIconst (pc := 2535) hC (v := (nI 2)) dL_law_2535 (by decide +kernel) ?_
  refine gIadd (pc := 2536) hC (v := nI (4 * t + 2)) dL_law_2536 (nI_add _ _) ?_
  refine gSld (pc := 2537) hC (v := y) hX (4 * t + 2) rfl (by omega) hN hy dL_law_2537 ?_
  refine gAloadN (pc := 2538) hC dL_law_2538 rfl 3 rfl ?_
  obtain ⟨K, hK⟩ : ∃ K : Nat, K = kk1 (okR x) := ⟨_, rfl⟩
  have hKn : ¬ K = 0 → ¬ nI K = 0 := by rw [hK]; exact kk1_n
  refine gSW (pc := 2539) (rest := []) hC hl9 (c_L_isShifted l D q σ μ f g Δ x y hσ) (vx_cwSW 4 hC.2.2.2.2.1 gL_law_L_isShifted rfl rfl rfl (by decide +kernel) ⟨Nat.le_of_ble_eq_true rfl, Nat.le_of_ble_eq_true rfl⟩) rfl rfl (Nat.le_of_ble_eq_true rfl) dL_law_2539 ⟨Nat.le_trans (Nat.add_le_add_left (by decide) _) hk, Nat.le_trans (Nat.add_le_add_left (by decide) _) hn⟩ (fun v w1 hp => ?_)
  have hp : wPost q g μ Δ (Δ) K (fun t : Int64 => ∃ v : Int32, t = bl v ∧ (fun b => b = nI 1) v) v w1 := by rw [hK]; exact hp
  obtain ⟨rfl, σ1, f1, rfl, h1⟩ := hp
  refine gStk (st' := [.int (nI K)]) (pc' := 2542) rfl rfl ?_
  refine gIstore (pc := 2542) hC (lv' := [(6, .int (nI K)), (0, .ref b), (1, .ref (wx q)), (2, .ref (wm q)), (3, .ref (wo q)), (4, .ref (wd q)), (5, .int (nI (4 * t)))]) dL_law_2542 (by decide) rfl ?_
  refine gAloadN (pc := 2544) hC dL_law_2544 rfl 3 rfl ?_
  refine gAloadN (pc := 2545) hC dL_law_2545 rfl 1 rfl ?_
  refine gIload (pc := 2546) hC dL_law_2546 6 rfl ?_
  refine gIconst (pc := 2548) hC (v := (nI 1)) dL_law_2548 (by decide +kernel) ?_
  refine gIadd (pc := 2549) hC (v := nI (4 * t + 1)) dL_law_2549 (nI_add _ _) ?_
  refine gSld (pc := 2550) hC (v := x) hX (4 * t + 1) rfl (by omega) hN hx dL_law_2550 ?_
  refine gAloadN (pc := 2551) hC dL_law_2551 rfl 1 rfl ?_
  refine gIload (pc := 2552) hC dL_law_2552 6 rfl ?_
  refine gIconst (pc := 2554) hC (v := (nI 2)) dL_law_2554 (by decide +kernel) ?_
  refine gIadd (pc := 2555) hC (v := nI (4 * t + 2)) dL_law_2555 (nI_add _ _) ?_
  refine gSld (pc := 2556) hC (v := y) hX (4 * t + 2) rfl (by omega) hN hy dL_law_2556 ?_
  refine gToM ?_
  refine gV (pc := 2557) (rest := []) (ci := 2) (q0 := 0) hM (c_X2_isShifted l D (LM q f1 g σ1) μ Δ x y hμ) rfl rfl (cwV 2 hC.2.2.2.2.1 gL_law_X2_isShifted rfl rfl rfl (by decide +kernel) ⟨Nat.le_of_ble_eq_true rfl, Nat.le_of_ble_eq_true rfl⟩) rfl rfl (Nat.le_of_ble_eq_true rfl) dL_law_2557 ⟨Nat.le_trans (show k + 1 + 0 ≤ k + 8 by omega) hk, Nat.le_trans (show n + 6 + 0 ≤ n + 48 by omega) hn⟩ (fun v w1 hp => ?_)
  have hp : mPost (LM q f1 g σ1) Δ (Δ) K (fun b => b = nI 1) v w1 := by rw [hK]; exact hp
  obtain ⟨b1, rfl, μ1, rfl, hmt, h2⟩ := hp
  refine gStk (st' := [.int b1]) (pc' := 2560) rfl rfl ?_
  have hj := wJoin h1 h2
  refine gIstore (pc := 2560) hM (lv' := [(7, .int b1), (6, .int (nI K)), (0, .ref b), (1, .ref (wx q)), (2, .ref (wm q)), (3, .ref (wo q)), (4, .ref (wd q)), (5, .int (nI (4 * t)))]) dL_law_2560 (by decide) rfl ?_
  refine gAloadN (pc := 2562) hM dL_law_2562 rfl 4 rfl ?_
  refine gV (pc := 2563) (rest := []) (ci := 2) (q0 := 0) hM (c_X2_thrown l D (LM q f1 g σ1) μ1) rfl rfl (cwV 0 hC.2.2.2.2.1 gL_law_X2_thrown rfl rfl rfl (by decide +kernel) ⟨Nat.le_of_ble_eq_true rfl, Nat.le_of_ble_eq_true rfl⟩) rfl rfl (Nat.le_of_ble_eq_true rfl) dL_law_2563 ⟨Nat.le_trans (show k + 1 + 0 ≤ k + 8 by omega) hk, Nat.le_trans (show n + 6 + 0 ≤ n + 48 by omega) hn⟩ (fun v w1 hp => ?_)
  obtain ⟨rfl, rfl⟩ := hp
  refine gStk (st' := [.int (mt μ1)]) (pc' := 2566) rfl rfl ?_
  refine gIload (pc := 2566) hM dL_law_2566 1 rfl ?_
  refine gIcmp_eq (tgt := 2573) (pc := 2568) hM dL_law_2568 (by decide) (fun _ => ?_) (fun h => absurd hmt h)
  rcases hj with ⟨hK0, ⟨hcv, hσ1⟩, hvl, hμ1⟩ | ⟨hK1, hσ1, hμ1⟩
  · skip
    refine gIload (pc := 2573) hM dL_law_2573 1 rfl ?_
    refine gIf_ne (tgt := 2597) (pc := 2575) hM dL_law_2575 (by decide) (fun h => absurd (by rw [hK0]; rfl) h) (fun _ => ?_)
    obtain ⟨v0, hv0, hcv⟩ := hcv
    have hvb : v0 = b1 := hcv.trans hvl.symm
    refine gAloadN (pc := 2578) hM dL_law_2578 rfl 5 rfl ?_
    refine gIconst (pc := 2579) hM (v := (nI 0)) dL_law_2579 (by decide +kernel) ?_
    refine gLald (pc := 2580) hM 0 rfl (by decide) (by decide) 9 3 rfl rfl rfl dL_law_2580 ?_
    refine gIload (pc := 2581) hM dL_law_2581 0 rfl ?_
    refine gNl hM 2583 dL_law_2583 dL_law_2586 dL_law_2587 dL_law_2590 ?_
    refine gStk (st' := [.long (bl b1), .long (f1 0)]) (pc' := 2591) rfl rfl ?_
    refine gLcmp (v := nI 0) (pc := 2591) hM dL_law_2591 (by rw [hv0, hvb]; exact lg_cmp_self _) ?_
    refine gIf_eq (tgt := 2597) (pc := 2592) hM dL_law_2592 (by decide) (fun _ => ?_) (fun h => absurd rfl h)
    refine gGoto (pc := 2597) hM (tgt := 2915) dL_law_2597 (by decide) ?_
    refine gToC ?_
    refine gLoc (lv' := [(0, .ref b), (1, .ref (wx q)), (2, .ref (wm q)), (3, .ref (wo q)), (4, .ref (wd q)), (5, .int (nI (4 * t)))]) [2, 3, 4, 5, 6, 7] rfl ?_
    exact gWid (show k + 1 + 0 + 0 ≤ k + 8 by omega) (show n + 6 + 0 + 0 ≤ n + 48 by omega) (kk σ1 μ1 f1 g (Δ) hσ1 hμ1)
  · skip
    refine gIload (pc := 2573) hM dL_law_2573 1 rfl ?_
    refine gIf_ne (tgt := 2597) (pc := 2575) hM dL_law_2575 (by decide) (fun _ => ?_) (fun h => absurd h (hKn hK1))
    refine gGoto (pc := 2597) hM (tgt := 2915) dL_law_2597 (by decide) ?_
    refine gToC ?_
    refine gLoc (lv' := [(0, .ref b), (1, .ref (wx q)), (2, .ref (wm q)), (3, .ref (wo q)), (4, .ref (wd q)), (5, .int (nI (4 * t)))]) [2, 3, 4, 5, 6, 7] rfl ?_
    exact gWid (show k + 1 + 0 + 0 ≤ k + 8 by omega) (show n + 6 + 0 + 0 ≤ n + 48 by omega) (kk σ1 μ1 f1 g (Δ) hσ1 hμ1)

set_option maxRecDepth 100000 in
set_option maxHeartbeats 4000000 in
theorem lk_35 {p : Program} {l : Launch} {e : Env} {s : State} {m : MethodId} {args : Array Value} {below : List Frame} {meth : Method} {c : Code} {D : va_G} {A : Nat → Prop} {Q : State → Prop} (q : wLay) {b N : Nat} {xs : Nat → Int32} (hC : gC p s m args meth c cL_law 9 RL wsL_law D (wTy q) A) (hX : va_X b N xs s s.heap ∧ b < s.heap.size ∧ ¬ A b) (hl9 : l.stackTraces = false) (hN : N ≤ 2048) {t k n : Nat} (ht : 4 * t + 4 ≤ N) (hk : k + 8 ≤ 663840) (hn : n + 48 ≤ 7104584) {σ : cSt} {μ : mSt} {f : Nat → Int64} {g : Nat → UInt64} {Δ : dSt} (hσ : cRel σ Δ) (hμ : mRel μ Δ) (x y z : Int32) (hx : xs (4 * t + 1) = x) (hy : xs (4 * t + 2) = y) (hz : xs (4 * t + 3) = z) (kk : ∀ (σ' : cSt) (μ' : mSt) (f' : Nat → Int64) (g' : Nat → UInt64) (Δ' : dSt), cRel σ' Δ' → mRel μ' Δ' → gG p l e room_1 s m args below meth c D A 9 (k + 8) (n + 48) Q (WC (LC q f' g' μ') σ') 2915 [(0, .ref b), (1, .ref (wx q)), (2, .ref (wm q)), (3, .ref (wo q)), (4, .ref (wd q)), (5, .int (nI (4 * t)))] []) : gG p l e room_1 s m args below meth c D A 9 k n Q (WC (LC q f g μ) σ) 2600 [(0, .ref b), (1, .ref (wx q)), (2, .ref (wm q)), (3, .ref (wo q)), (4, .ref (wd q)), (5, .int (nI (4 * t)))] [] := by
  have hM := gCm hC
  refine gAloadN (pc := 2600) hC dL_law_2600 rfl 1 rfl ?_
  refine gAloadN (pc := 2601) hC dL_law_2601 rfl 0 rfl ?_
  refine gIload (pc := 2602) hC dL_law_2602 5 rfl ?_
  refine gIconst (pc := 2604) hC (v := (nI 1)) dL_law_2604 (by decide +kernel) ?_
  refine gIadd (pc := 2605) hC (v := nI (4 * t + 1)) dL_law_2605 (nI_add _ _) ?_
  refine gSld (pc := 2606) hC (v := x) hX (4 * t + 1) rfl (by omega) hN hx dL_law_2606 ?_
  refine gAloadN (pc := 2607) hC dL_law_2607 rfl 0 rfl ?_
  refine gIload (pc := 2608) hC dL_law_2608 5 rfl ?_
  refine gIconst (pc := 2610) hC (v := (nI 2)) dL_law_2610 (by decide +kernel) ?_
  refine gIadd (pc := 2611) hC (v := nI (4 * t + 2)) dL_law_2611 (nI_add _ _) ?_
  refine gSld (pc := 2612) hC (v := y) hX (4 * t + 2) rfl (by omega) hN hy dL_law_2612 ?_
  refine gAloadN (pc := 2613) hC dL_law_2613 rfl 0 rfl ?_
  refine gIload (pc := 2614) hC dL_law_2614 5 rfl ?_
  refine gIconst (pc := 2616) hC (v := (nI 3)) dL_law_2616 (by decide +kernel) ?_
  refine gIadd (pc := 2617) hC (v := nI (4 * t + 3)) dL_law_2617 (nI_add _ _) ?_
  refine gSld (pc := 2618) hC (v := z) hX (4 * t + 3) rfl (by omega) hN hz dL_law_2618 ?_
  refine gAloadN (pc := 2619) hC dL_law_2619 rfl 3 rfl ?_
  obtain ⟨K, hK⟩ : ∃ K : Nat, K = kk3 (okR x ∧ okR y) (okNum z) ((Δ.2.1 (rI x)) = (Δ.2.1 (rI y))) := ⟨_, rfl⟩
  have hKn : ¬ K = 0 → ¬ nI K = 0 := by rw [hK]; exact kk3_n
  refine gSW (pc := 2620) (rest := []) hC hl9 (c_L_isSum l D q σ μ f g Δ x y z hσ) (vx_cwSW 5 hC.2.2.2.2.1 gL_law_L_isSum rfl rfl rfl (by decide +kernel) ⟨Nat.le_of_ble_eq_true rfl, Nat.le_of_ble_eq_true rfl⟩) rfl rfl (Nat.le_of_ble_eq_true rfl) dL_law_2620 ⟨Nat.le_trans (Nat.add_le_add_left (by decide) _) hk, Nat.le_trans (Nat.add_le_add_left (by decide) _) hn⟩ (fun v w1 hp => ?_)
  have hp : wPost q g μ Δ (Δ) K (fun t : Int64 => ∃ v : Int32, t = bl v ∧ (fun b => b = nI 1) v) v w1 := by rw [hK]; exact hp
  obtain ⟨rfl, σ1, f1, rfl, h1⟩ := hp
  refine gStk (st' := [.int (nI K)]) (pc' := 2623) rfl rfl ?_
  refine gIstore (pc := 2623) hC (lv' := [(6, .int (nI K)), (0, .ref b), (1, .ref (wx q)), (2, .ref (wm q)), (3, .ref (wo q)), (4, .ref (wd q)), (5, .int (nI (4 * t)))]) dL_law_2623 (by decide) rfl ?_
  refine gAloadN (pc := 2625) hC dL_law_2625 rfl 3 rfl ?_
  refine gAloadN (pc := 2626) hC dL_law_2626 rfl 1 rfl ?_
  refine gIload (pc := 2627) hC dL_law_2627 6 rfl ?_
  refine gIconst (pc := 2629) hC (v := (nI 1)) dL_law_2629 (by decide +kernel) ?_
  refine gIadd (pc := 2630) hC (v := nI (4 * t + 1)) dL_law_2630 (nI_add _ _) ?_
  refine gSld (pc := 2631) hC (v := x) hX (4 * t + 1) rfl (by omega) hN hx dL_law_2631 ?_
  refine gAloadN (pc := 2632) hC dL_law_2632 rfl 1 rfl ?_
  refine gIload (pc := 2633) hC dL_law_2633 6 rfl ?_
  refine gIconst (pc := 2635) hC (v := (nI 2)) dL_law_2635 (by decide +kernel) ?_
  refine gIadd (pc := 2636) hC (v := nI (4 * t + 2)) dL_law_2636 (nI_add _ _) ?_
  refine gSld (pc := 2637) hC (v := y) hX (4 * t + 2) rfl (by omega) hN hy dL_law_2637 ?_
  refine gAloadN (pc := 2638) hC dL_law_2638 rfl 1 rfl ?_
  refine gIload (pc := 2639) hC dL_law_2639 6 rfl ?_
  refine gIconst (pc := 2641) hC (v := (nI 3)) dL_law_2641 (by decide +kernel) ?_
  refine gIadd (pc := 2642) hC (v := nI (4 * t + 3)) dL_law_2642 (nI_add _ _) ?_
  refine gSld (pc := 2643) hC (v := z) hX (4 * t + 3) rfl (by omega) hN hz dL_law_2643 ?_
  refine gToM ?_
  refine gV (pc := 2644) (rest := []) (ci := 2) (q0 := 0) hM (c_X2_isSum l D (LM q f1 g σ1) μ Δ x y z hμ) rfl rfl (cwV 3 hC.2.2.2.2.1 gL_law_X2_isSum rfl rfl rfl (by decide +kernel) ⟨Nat.le_of_ble_eq_true rfl, Nat.le_of_ble_eq_true rfl⟩) rfl rfl (Nat.le_of_ble_eq_true rfl) dL_law_2644 ⟨Nat.le_trans (show k + 4 + 0 ≤ k + 8 by omega) hk, Nat.le_trans (show n + 24 + 0 ≤ n + 48 by omega) hn⟩ (fun v w1 hp => ?_)
  have hp : mPost (LM q f1 g σ1) Δ (Δ) K (fun b => b = nI 1) v w1 := by rw [hK]; exact hp
  obtain ⟨b1, rfl, μ1, rfl, hmt, h2⟩ := hp
  refine gStk (st' := [.int b1]) (pc' := 2647) rfl rfl ?_
  have hj := wJoin h1 h2
  refine gIstore (pc := 2647) hM (lv' := [(7, .int b1), (6, .int (nI K)), (0, .ref b), (1, .ref (wx q)), (2, .ref (wm q)), (3, .ref (wo q)), (4, .ref (wd q)), (5, .int (nI (4 * t)))]) dL_law_2647 (by decide) rfl ?_
  refine gAloadN (pc := 2649) hM dL_law_2649 rfl 4 rfl ?_
  refine gV (pc := 2650) (rest := []) (ci := 2) (q0 := 0) hM (c_X2_thrown l D (LM q f1 g σ1) μ1) rfl rfl (cwV 0 hC.2.2.2.2.1 gL_law_X2_thrown rfl rfl rfl (by decide +kernel) ⟨Nat.le_of_ble_eq_true rfl, Nat.le_of_ble_eq_true rfl⟩) rfl rfl (Nat.le_of_ble_eq_true rfl) dL_law_2650 ⟨Nat.le_trans (show k + 4 + 0 ≤ k + 8 by omega) hk, Nat.le_trans (show n + 24 + 0 ≤ n + 48 by omega) hn⟩ (fun v w1 hp => ?_)
  obtain ⟨rfl, rfl⟩ := hp
  refine gStk (st' := [.int (mt μ1)]) (pc' := 2653) rfl rfl ?_
  refine gIload (pc := 2653) hM dL_law_2653 1 rfl ?_
  refine gIcmp_eq (tgt := 2660) (pc := 2655) hM dL_law_2655 (by decide) (fun _ => ?_) (fun h => absurd hmt h)
  rcases hj with ⟨hK0, ⟨hcv, hσ1⟩, hvl, hμ1⟩ | ⟨hK1, hσ1, hμ1⟩
  · skip
    refine gIload (pc := 2660) hM dL_law_2660 1 rfl ?_
    refine gIf_ne (tgt := 2684) (pc := 2662) hM dL_law_2662 (by decide) (fun h => absurd (by rw [hK0]; rfl) h) (fun _ => ?_)
    obtain ⟨v0, hv0, hcv⟩ := hcv
    have hvb : v0 = b1 := hcv.trans hvl.symm
    refine gAloadN (pc := 2665) hM dL_law_2665 rfl 5 rfl ?_
    refine gIconst (pc := 2666) hM (v := (nI 0)) dL_law_2666 (by decide +kernel) ?_
    refine gLald (pc := 2667) hM 0 rfl (by decide) (by decide) 9 3 rfl rfl rfl dL_law_2667 ?_
    refine gIload (pc := 2668) hM dL_law_2668 0 rfl ?_
    refine gNl hM 2670 dL_law_2670 dL_law_2673 dL_law_2674 dL_law_2677 ?_
    refine gStk (st' := [.long (bl b1), .long (f1 0)]) (pc' := 2678) rfl rfl ?_
    refine gLcmp (v := nI 0) (pc := 2678) hM dL_law_2678 (by rw [hv0, hvb]; exact lg_cmp_self _) ?_
    refine gIf_eq (tgt := 2684) (pc := 2679) hM dL_law_2679 (by decide) (fun _ => ?_) (fun h => absurd rfl h)
    refine gGoto (pc := 2684) hM (tgt := 2915) dL_law_2684 (by decide) ?_
    refine gToC ?_
    refine gLoc (lv' := [(0, .ref b), (1, .ref (wx q)), (2, .ref (wm q)), (3, .ref (wo q)), (4, .ref (wd q)), (5, .int (nI (4 * t)))]) [2, 3, 4, 5, 6, 7] rfl ?_
    exact gWid (show k + 4 + 0 + 0 ≤ k + 8 by omega) (show n + 24 + 0 + 0 ≤ n + 48 by omega) (kk σ1 μ1 f1 g (Δ) hσ1 hμ1)
  · skip
    refine gIload (pc := 2660) hM dL_law_2660 1 rfl ?_
    refine gIf_ne (tgt := 2684) (pc := 2662) hM dL_law_2662 (by decide) (fun _ => ?_) (fun h => absurd h (hKn hK1))
    refine gGoto (pc := 2684) hM (tgt := 2915) dL_law_2684 (by decide) ?_
    refine gToC ?_
    refine gLoc (lv' := [(0, .ref b), (1, .ref (wx q)), (2, .ref (wm q)), (3, .ref (wo q)), (4, .ref (wd q)), (5, .int (nI (4 * t)))]) [2, 3, 4, 5, 6, 7] rfl ?_
    exact gWid (show k + 4 + 0 + 0 ≤ k + 8 by omega) (show n + 24 + 0 + 0 ≤ n + 48 by omega) (kk σ1 μ1 f1 g (Δ) hσ1 hμ1)

set_option maxRecDepth 100000 in
set_option maxHeartbeats 4000000 in
theorem lk_36 {p : Program} {l : Launch} {e : Env} {s : State} {m : MethodId} {args : Array Value} {below : List Frame} {meth : Method} {c : Code} {D : va_G} {A : Nat → Prop} {Q : State → Prop} (q : wLay) {b N : Nat} {xs : Nat → Int32} (hC : gC p s m args meth c cL_law 9 RL wsL_law D (wTy q) A) (hX : va_X b N xs s s.heap ∧ b < s.heap.size ∧ ¬ A b) (hl9 : l.stackTraces = false) (hN : N ≤ 2048) {t k n : Nat} (ht : 4 * t + 4 ≤ N) (hk : k + 8 ≤ 663840) (hn : n + 48 ≤ 7104584) {σ : cSt} {μ : mSt} {f : Nat → Int64} {g : Nat → UInt64} {Δ : dSt} (hσ : cRel σ Δ) (hμ : mRel μ Δ) (x y z : Int32) (hx : xs (4 * t + 1) = x) (hy : xs (4 * t + 2) = y) (hz : xs (4 * t + 3) = z) (kk : ∀ (σ' : cSt) (μ' : mSt) (f' : Nat → Int64) (g' : Nat → UInt64) (Δ' : dSt), cRel σ' Δ' → mRel μ' Δ' → gG p l e room_1 s m args below meth c D A 9 (k + 8) (n + 48) Q (WC (LC q f' g' μ') σ') 2915 [(0, .ref b), (1, .ref (wx q)), (2, .ref (wm q)), (3, .ref (wo q)), (4, .ref (wd q)), (5, .int (nI (4 * t)))] []) : gG p l e room_1 s m args below meth c D A 9 k n Q (WC (LC q f g μ) σ) 2687 [(0, .ref b), (1, .ref (wx q)), (2, .ref (wm q)), (3, .ref (wo q)), (4, .ref (wd q)), (5, .int (nI (4 * t)))] [] := by
  have hM := gCm hC
  refine gAloadN (pc := 2687) hC dL_law_2687 rfl 1 rfl ?_
  refine gAloadN (pc := 2688) hC dL_law_2688 rfl 0 rfl ?_
  refine gIload (pc := 2689) hC dL_law_2689 5 rfl ?_
  refine gIconst (pc := 2691) hC (v := (nI 1)) dL_law_2691 (by decide +kernel) ?_
  refine gIadd (pc := 2692) hC (v := nI (4 * t + 1)) dL_law_2692 (nI_add _ _) ?_
  refine gSld (pc := 2693) hC (v := x) hX (4 * t + 1) rfl (by omega) hN hx dL_law_2693 ?_
  refine gAloadN (pc := 2694) hC dL_law_2694 rfl 0 rfl ?_
  refine gIload (pc := 2695) hC dL_law_2695 5 rfl ?_
  refine gIconst (pc := 2697) hC (v := (nI 2)) dL_law_2697 (by decide +kernel) ?_
  refine gIadd (pc := 2698) hC (v := nI (4 * t + 2)) dL_law_2698 (nI_add _ _) ?_
  refine gSld (pc := 2699) hC (v := y) hX (4 * t + 2) rfl (by omega) hN hy dL_law_2699 ?_
  refine gAloadN (pc := 2700) hC dL_law_2700 rfl 3 rfl ?_
  obtain ⟨K, hK⟩ : ∃ K : Nat, K = kk2 (okR x) (okD y ∧ ¬ nI (Δ.2.1 (rI x)) < y) := ⟨_, rfl⟩
  have hKn : ¬ K = 0 → ¬ nI K = 0 := by rw [hK]; exact kk2_n
  refine gSW (pc := 2701) (rest := []) hC hl9 (c_L_isAgain l D q σ μ f g Δ x y hσ) (vx_cwSW 4 hC.2.2.2.2.1 gL_law_L_isAgain rfl rfl rfl (by decide +kernel) ⟨Nat.le_of_ble_eq_true rfl, Nat.le_of_ble_eq_true rfl⟩) rfl rfl (Nat.le_of_ble_eq_true rfl) dL_law_2701 ⟨Nat.le_trans (Nat.add_le_add_left (by decide) _) hk, Nat.le_trans (Nat.add_le_add_left (by decide) _) hn⟩ (fun v w1 hp => ?_)
  have hp : wPost q g μ Δ (Δ) K (fun t : Int64 => ∃ v : Int32, t = bl v ∧ (fun b => b = nI 1) v) v w1 := by rw [hK]; exact hp
  obtain ⟨rfl, σ1, f1, rfl, h1⟩ := hp
  refine gStk (st' := [.int (nI K)]) (pc' := 2704) rfl rfl ?_
  refine gIstore (pc := 2704) hC (lv' := [(6, .int (nI K)), (0, .ref b), (1, .ref (wx q)), (2, .ref (wm q)), (3, .ref (wo q)), (4, .ref (wd q)), (5, .int (nI (4 * t)))]) dL_law_2704 (by decide) rfl ?_
  refine gAloadN (pc := 2706) hC dL_law_2706 rfl 3 rfl ?_
  refine gAloadN (pc := 2707) hC dL_law_2707 rfl 1 rfl ?_
  refine gIload (pc := 2708) hC dL_law_2708 6 rfl ?_
  refine gIconst (pc := 2710) hC (v := (nI 1)) dL_law_2710 (by decide +kernel) ?_
  refine gIadd (pc := 2711) hC (v := nI (4 * t + 1)) dL_law_2711 (nI_add _ _) ?_
  refine gSld (pc := 2712) hC (v := x) hX (4 * t + 1) rfl (by omega) hN hx dL_law_2712 ?_
  refine gAloadN (pc := 2713) hC dL_law_2713 rfl 1 rfl ?_
  refine gIload (pc := 2714) hC dL_law_2714 6 rfl ?_
  refine gIconst (pc := 2716) hC (v := (nI 2)) dL_law_2716 (by decide +kernel) ?_
  refine gIadd (pc := 2717) hC (v := nI (4 * t + 2)) dL_law_2717 (nI_add _ _) ?_
  refine gSld (pc := 2718) hC (v := y) hX (4 * t + 2) rfl (by omega) hN hy dL_law_2718 ?_
  refine gToM ?_
  refine gV (pc := 2719) (rest := []) (ci := 2) (q0 := 0) hM (c_X2_isAgain l D (LM q f1 g σ1) μ Δ x y hμ) rfl rfl (cwV 2 hC.2.2.2.2.1 gL_law_X2_isAgain rfl rfl rfl (by decide +kernel) ⟨Nat.le_of_ble_eq_true rfl, Nat.le_of_ble_eq_true rfl⟩) rfl rfl (Nat.le_of_ble_eq_true rfl) dL_law_2719 ⟨Nat.le_trans (show k + 2 + 0 ≤ k + 8 by omega) hk, Nat.le_trans (show n + 12 + 0 ≤ n + 48 by omega) hn⟩ (fun v w1 hp => ?_)
  have hp : mPost (LM q f1 g σ1) Δ (Δ) K (fun b => b = nI 1) v w1 := by rw [hK]; exact hp
  obtain ⟨b1, rfl, μ1, rfl, hmt, h2⟩ := hp
  refine gStk (st' := [.int b1]) (pc' := 2722) rfl rfl ?_
  have hj := wJoin h1 h2
  refine gIstore (pc := 2722) hM (lv' := [(7, .int b1), (6, .int (nI K)), (0, .ref b), (1, .ref (wx q)), (2, .ref (wm q)), (3, .ref (wo q)), (4, .ref (wd q)), (5, .int (nI (4 * t)))]) dL_law_2722 (by decide) rfl ?_
  refine gAloadN (pc := 2724) hM dL_law_2724 rfl 4 rfl ?_
  refine gV (pc := 2725) (rest := []) (ci := 2) (q0 := 0) hM (c_X2_thrown l D (LM q f1 g σ1) μ1) rfl rfl (cwV 0 hC.2.2.2.2.1 gL_law_X2_thrown rfl rfl rfl (by decide +kernel) ⟨Nat.le_of_ble_eq_true rfl, Nat.le_of_ble_eq_true rfl⟩) rfl rfl (Nat.le_of_ble_eq_true rfl) dL_law_2725 ⟨Nat.le_trans (show k + 2 + 0 ≤ k + 8 by omega) hk, Nat.le_trans (show n + 12 + 0 ≤ n + 48 by omega) hn⟩ (fun v w1 hp => ?_)
  obtain ⟨rfl, rfl⟩ := hp
  refine gStk (st' := [.int (mt μ1)]) (pc' := 2728) rfl rfl ?_
  refine gIload (pc := 2728) hM dL_law_2728 1 rfl ?_
  refine gIcmp_eq (tgt := 2735) (pc := 2730) hM dL_law_2730 (by decide) (fun _ => ?_) (fun h => absurd hmt h)
  rcases hj with ⟨hK0, ⟨hcv, hσ1⟩, hvl, hμ1⟩ | ⟨hK1, hσ1, hμ1⟩
  · skip
    refine gIload (pc := 2735) hM dL_law_2735 1 rfl ?_
    refine gIf_ne (tgt := 2759) (pc := 2737) hM dL_law_2737 (by decide) (fun h => absurd (by rw [hK0]; rfl) h) (fun _ => ?_)
    obtain ⟨v0, hv0, hcv⟩ := hcv
    have hvb : v0 = b1 := hcv.trans hvl.symm
    refine gAloadN (pc := 2740) hM dL_law_2740 rfl 5 rfl ?_
    refine gIconst (pc := 2741) hM (v := (nI 0)) dL_law_2741 (by decide +kernel) ?_
    refine gLald (pc := 2742) hM 0 rfl (by decide) (by decide) 9 3 rfl rfl rfl dL_law_2742 ?_
    refine gIload (pc := 2743) hM dL_law_2743 0 rfl ?_
    refine gNl hM 2745 dL_law_2745 dL_law_2748 dL_law_2749 dL_law_2752 ?_
    refine gStk (st' := [.long (bl b1), .long (f1 0)]) (pc' := 2753) rfl rfl ?_
    refine gLcmp (v := nI 0) (pc := 2753) hM dL_law_2753 (by rw [hv0, hvb]; exact lg_cmp_self _) ?_
    refine gIf_eq (tgt := 2759) (pc := 2754) hM dL_law_2754 (by decide) (fun _ => ?_) (fun h => absurd rfl h)
    refine gGoto (pc := 2759) hM (tgt := 2915) dL_law_2759 (by decide) ?_
    refine gToC ?_
    refine gLoc (lv' := [(0, .ref b), (1, .ref (wx q)), (2, .ref (wm q)), (3, .ref (wo q)), (4, .ref (wd q)), (5, .int (nI (4 * t)))]) [2, 3, 4, 5, 6, 7] rfl ?_
    exact gWid (show k + 2 + 0 + 0 ≤ k + 8 by omega) (show n + 12 + 0 + 0 ≤ n + 48 by omega) (kk σ1 μ1 f1 g (Δ) hσ1 hμ1)
  · skip
    refine gIload (pc := 2735) hM dL_law_2735 1 rfl ?_
    refine gIf_ne (tgt := 2759) (pc := 2737) hM dL_law_2737 (by decide) (fun _ => ?_) (fun h => absurd h (hKn hK1))
    refine gGoto (pc := 2759) hM (tgt := 2915) dL_law_2759 (by decide) ?_
    refine gToC ?_
    refine gLoc (lv' := [(0, .ref b), (1, .ref (wx q)), (2, .ref (wm q)), (3, .ref (wo q)), (4, .ref (wd q)), (5, .int (nI (4 * t)))]) [2, 3, 4, 5, 6, 7] rfl ?_
    exact gWid (show k + 2 + 0 + 0 ≤ k + 8 by omega) (show n + 12 + 0 + 0 ≤ n + 48 by omega) (kk σ1 μ1 f1 g (Δ) hσ1 hμ1)

set_option maxRecDepth 100000 in
set_option maxHeartbeats 4000000 in
theorem lk_37 {p : Program} {l : Launch} {e : Env} {s : State} {m : MethodId} {args : Array Value} {below : List Frame} {meth : Method} {c : Code} {D : va_G} {A : Nat → Prop} {Q : State → Prop} (q : wLay) {b N : Nat} {xs : Nat → Int32} (hC : gC p s m args meth c cL_law 9 RL wsL_law D (wTy q) A) (hX : va_X b N xs s s.heap ∧ b < s.heap.size ∧ ¬ A b) (hl9 : l.stackTraces = false) (hN : N ≤ 2048) {t k n : Nat} (ht : 4 * t + 4 ≤ N) (hk : k + 8 ≤ 663840) (hn : n + 48 ≤ 7104584) {σ : cSt} {μ : mSt} {f : Nat → Int64} {g : Nat → UInt64} {Δ : dSt} (hσ : cRel σ Δ) (hμ : mRel μ Δ) (x y z : Int32) (hx : xs (4 * t + 1) = x) (hy : xs (4 * t + 2) = y) (hz : xs (4 * t + 3) = z) (kk : ∀ (σ' : cSt) (μ' : mSt) (f' : Nat → Int64) (g' : Nat → UInt64) (Δ' : dSt), cRel σ' Δ' → mRel μ' Δ' → gG p l e room_1 s m args below meth c D A 9 (k + 8) (n + 48) Q (WC (LC q f' g' μ') σ') 2915 [(0, .ref b), (1, .ref (wx q)), (2, .ref (wm q)), (3, .ref (wo q)), (4, .ref (wd q)), (5, .int (nI (4 * t)))] []) : gG p l e room_1 s m args below meth c D A 9 k n Q (WC (LC q f g μ) σ) 2762 [(0, .ref b), (1, .ref (wx q)), (2, .ref (wm q)), (3, .ref (wo q)), (4, .ref (wd q)), (5, .int (nI (4 * t)))] [] := by
  have hM := gCm hC
  refine gAloadN (pc := 2762) hC dL_law_2762 rfl 1 rfl ?_
  refine gAloadN (pc := 2763) hC dL_law_2763 rfl 0 rfl ?_
  refine gIload (pc := 2764) hC dL_law_2764 5 rfl ?_
  refine gIconst (pc := 2766) hC (v := (nI 1)) dL_law_2766 (by decide +kernel) ?_
  refine gIadd (pc := 2767) hC (v := nI (4 * t + 1)) dL_law_2767 (nI_add _ _) ?_
  refine gSld (pc := 2768) hC (v := x) hX (4 * t + 1) rfl (by omega) hN hx dL_law_2768 ?_
  refine gAloadN (pc := 2769) hC dL_law_2769 rfl 3 rfl ?_
  obtain ⟨K, hK⟩ : ∃ K : Nat, K = kk1 (okR x) := ⟨_, rfl⟩
  have hKn : ¬ K = 0 → ¬ nI K = 0 := by rw [hK]; exact kk1_n
  refine gSW (pc := 2770) (rest := []) hC hl9 (c_L_isOwn l D q σ μ f g Δ x hσ) (vx_cwSW 3 hC.2.2.2.2.1 gL_law_L_isOwn rfl rfl rfl (by decide +kernel) ⟨Nat.le_of_ble_eq_true rfl, Nat.le_of_ble_eq_true rfl⟩) rfl rfl (Nat.le_of_ble_eq_true rfl) dL_law_2770 ⟨Nat.le_trans (Nat.add_le_add_left (by decide) _) hk, Nat.le_trans (Nat.add_le_add_left (by decide) _) hn⟩ (fun v w1 hp => ?_)
  have hp : wPost q g μ Δ (Δ) K (fun t : Int64 => ∃ v : Int32, t = bl v ∧ (fun b => b = nI 1) v) v w1 := by rw [hK]; exact hp
  obtain ⟨rfl, σ1, f1, rfl, h1⟩ := hp
  refine gStk (st' := [.int (nI K)]) (pc' := 2773) rfl rfl ?_
  refine gIstore (pc := 2773) hC (lv' := [(6, .int (nI K)), (0, .ref b), (1, .ref (wx q)), (2, .ref (wm q)), (3, .ref (wo q)), (4, .ref (wd q)), (5, .int (nI (4 * t)))]) dL_law_2773 (by decide) rfl ?_
  refine gAloadN (pc := 2775) hC dL_law_2775 rfl 3 rfl ?_
  refine gAloadN (pc := 2776) hC dL_law_2776 rfl 1 rfl ?_
  refine gIload (pc := 2777) hC dL_law_2777 6 rfl ?_
  refine gIconst (pc := 2779) hC (v := (nI 1)) dL_law_2779 (by decide +kernel) ?_
  refine gIadd (pc := 2780) hC (v := nI (4 * t + 1)) dL_law_2780 (nI_add _ _) ?_
  refine gSld (pc := 2781) hC (v := x) hX (4 * t + 1) rfl (by omega) hN hx dL_law_2781 ?_
  refine gToM ?_
  refine gV (pc := 2782) (rest := []) (ci := 2) (q0 := 0) hM (c_X2_isOwn l D (LM q f1 g σ1) μ Δ x hμ) rfl rfl (cwV 1 hC.2.2.2.2.1 gL_law_X2_isOwn rfl rfl rfl (by decide +kernel) ⟨Nat.le_of_ble_eq_true rfl, Nat.le_of_ble_eq_true rfl⟩) rfl rfl (Nat.le_of_ble_eq_true rfl) dL_law_2782 ⟨Nat.le_trans (show k + 1 + 0 ≤ k + 8 by omega) hk, Nat.le_trans (show n + 6 + 0 ≤ n + 48 by omega) hn⟩ (fun v w1 hp => ?_)
  have hp : mPost (LM q f1 g σ1) Δ (Δ) K (fun b => b = nI 1) v w1 := by rw [hK]; exact hp
  obtain ⟨b1, rfl, μ1, rfl, hmt, h2⟩ := hp
  refine gStk (st' := [.int b1]) (pc' := 2785) rfl rfl ?_
  have hj := wJoin h1 h2
  refine gIstore (pc := 2785) hM (lv' := [(7, .int b1), (6, .int (nI K)), (0, .ref b), (1, .ref (wx q)), (2, .ref (wm q)), (3, .ref (wo q)), (4, .ref (wd q)), (5, .int (nI (4 * t)))]) dL_law_2785 (by decide) rfl ?_
  refine gAloadN (pc := 2787) hM dL_law_2787 rfl 4 rfl ?_
  refine gV (pc := 2788) (rest := []) (ci := 2) (q0 := 0) hM (c_X2_thrown l D (LM q f1 g σ1) μ1) rfl rfl (cwV 0 hC.2.2.2.2.1 gL_law_X2_thrown rfl rfl rfl (by decide +kernel) ⟨Nat.le_of_ble_eq_true rfl, Nat.le_of_ble_eq_true rfl⟩) rfl rfl (Nat.le_of_ble_eq_true rfl) dL_law_2788 ⟨Nat.le_trans (show k + 1 + 0 ≤ k + 8 by omega) hk, Nat.le_trans (show n + 6 + 0 ≤ n + 48 by omega) hn⟩ (fun v w1 hp => ?_)
  obtain ⟨rfl, rfl⟩ := hp
  refine gStk (st' := [.int (mt μ1)]) (pc' := 2791) rfl rfl ?_
  refine gIload (pc := 2791) hM dL_law_2791 1 rfl ?_
  refine gIcmp_eq (tgt := 2798) (pc := 2793) hM dL_law_2793 (by decide) (fun _ => ?_) (fun h => absurd hmt h)
  rcases hj with ⟨hK0, ⟨hcv, hσ1⟩, hvl, hμ1⟩ | ⟨hK1, hσ1, hμ1⟩
  · skip
    refine gIload (pc := 2798) hM dL_law_2798 1 rfl ?_
    refine gIf_ne (tgt := 2822) (pc := 2800) hM dL_law_2800 (by decide) (fun h => absurd (by rw [hK0]; rfl) h) (fun _ => ?_)
    obtain ⟨v0, hv0, hcv⟩ := hcv
    have hvb : v0 = b1 := hcv.trans hvl.symm
    refine gAloadN (pc := 2803) hM dL_law_2803 rfl 5 rfl ?_
    refine gIconst (pc := 2804) hM (v := (nI 0)) dL_law_2804 (by decide +kernel) ?_
    refine gLald (pc := 2805) hM 0 rfl (by decide) (by decide) 9 3 rfl rfl rfl dL_law_2805 ?_
    refine gIload (pc := 2806) hM dL_law_2806 0 rfl ?_
    refine gNl hM 2808 dL_law_2808 dL_law_2811 dL_law_2812 dL_law_2815 ?_
    refine gStk (st' := [.long (bl b1), .long (f1 0)]) (pc' := 2816) rfl rfl ?_
    refine gLcmp (v := nI 0) (pc := 2816) hM dL_law_2816 (by rw [hv0, hvb]; exact lg_cmp_self _) ?_
    refine gIf_eq (tgt := 2822) (pc := 2817) hM dL_law_2817 (by decide) (fun _ => ?_) (fun h => absurd rfl h)
    refine gGoto (pc := 2822) hM (tgt := 2915) dL_law_2822 (by decide) ?_
    refine gToC ?_
    refine gLoc (lv' := [(0, .ref b), (1, .ref (wx q)), (2, .ref (wm q)), (3, .ref (wo q)), (4, .ref (wd q)), (5, .int (nI (4 * t)))]) [2, 3, 4, 5, 6, 7] rfl ?_
    exact gWid (show k + 1 + 0 + 0 ≤ k + 8 by omega) (show n + 6 + 0 + 0 ≤ n + 48 by omega) (kk σ1 μ1 f1 g (Δ) hσ1 hμ1)
  · skip
    refine gIload (pc := 2798) hM dL_law_2798 1 rfl ?_
    refine gIf_ne (tgt := 2822) (pc := 2800) hM dL_law_2800 (by decide) (fun _ => ?_) (fun h => absurd h (hKn hK1))
    refine gGoto (pc := 2822) hM (tgt := 2915) dL_law_2822 (by decide) ?_
    refine gToC ?_
    refine gLoc (lv' := [(0, .ref b), (1, .ref (wx q)), (2, .ref (wm q)), (3, .ref (wo q)), (4, .ref (wd q)), (5, .int (nI (4 * t)))]) [2, 3, 4, 5, 6, 7] rfl ?_
    exact gWid (show k + 1 + 0 + 0 ≤ k + 8 by omega) (show n + 6 + 0 + 0 ≤ n + 48 by omega) (kk σ1 μ1 f1 g (Δ) hσ1 hμ1)

set_option maxRecDepth 100000 in
set_option maxHeartbeats 4000000 in
theorem lk_38 {p : Program} {l : Launch} {e : Env} {s : State} {m : MethodId} {args : Array Value} {below : List Frame} {meth : Method} {c : Code} {D : va_G} {A : Nat → Prop} {Q : State → Prop} (q : wLay) {b N : Nat} {xs : Nat → Int32} (hC : gC p s m args meth c cL_law 9 RL wsL_law D (wTy q) A) (hX : va_X b N xs s s.heap ∧ b < s.heap.size ∧ ¬ A b) (hl9 : l.stackTraces = false) (hN : N ≤ 2048) {t k n : Nat} (ht : 4 * t + 4 ≤ N) (hk : k + 8 ≤ 663840) (hn : n + 48 ≤ 7104584) {σ : cSt} {μ : mSt} {f : Nat → Int64} {g : Nat → UInt64} {Δ : dSt} (hσ : cRel σ Δ) (hμ : mRel μ Δ) (x y z : Int32) (hx : xs (4 * t + 1) = x) (hy : xs (4 * t + 2) = y) (hz : xs (4 * t + 3) = z) (kk : ∀ (σ' : cSt) (μ' : mSt) (f' : Nat → Int64) (g' : Nat → UInt64) (Δ' : dSt), cRel σ' Δ' → mRel μ' Δ' → gG p l e room_1 s m args below meth c D A 9 (k + 8) (n + 48) Q (WC (LC q f' g' μ') σ') 2915 [(0, .ref b), (1, .ref (wx q)), (2, .ref (wm q)), (3, .ref (wo q)), (4, .ref (wd q)), (5, .int (nI (4 * t)))] []) : gG p l e room_1 s m args below meth c D A 9 k n Q (WC (LC q f g μ) σ) 2825 [(0, .ref b), (1, .ref (wx q)), (2, .ref (wm q)), (3, .ref (wo q)), (4, .ref (wd q)), (5, .int (nI (4 * t)))] [] := by
  have hM := gCm hC
  refine gAloadN (pc := 2825) hC dL_law_2825 rfl 1 rfl ?_
  refine gAloadN (pc := 2826) hC dL_law_2826 rfl 0 rfl ?_
  refine gIload (pc := 2827) hC dL_law_2827 5 rfl ?_
  refine gIconst (pc := 2829) hC (v := (nI 1)) dL_law_2829 (by decide +kernel) ?_
  refine gIadd (pc := 2830) hC (v := nI (4 * t + 1)) dL_law_2830 (nI_add _ _) ?_
  refine gSld (pc := 2831) hC (v := x) hX (4 * t + 1) rfl (by omega) hN hx dL_law_2831 ?_
  refine gAloadN (pc := 2832) hC dL_law_2832 rfl 3 rfl ?_
  obtain ⟨K, hK⟩ : ∃ K : Nat, K = kk1 (okR x) := ⟨_, rfl⟩
  have hKn : ¬ K = 0 → ¬ nI K = 0 := by rw [hK]; exact kk1_n
  refine gSW (pc := 2833) (rest := []) hC hl9 (c_L_isInverse l D q σ μ f g Δ x hσ) (vx_cwSW 3 hC.2.2.2.2.1 gL_law_L_isInverse rfl rfl rfl (by decide +kernel) ⟨Nat.le_of_ble_eq_true rfl, Nat.le_of_ble_eq_true rfl⟩) rfl rfl (Nat.le_of_ble_eq_true rfl) dL_law_2833 ⟨Nat.le_trans (Nat.add_le_add_left (by decide) _) hk, Nat.le_trans (Nat.add_le_add_left (by decide) _) hn⟩ (fun v w1 hp => ?_)
  have hp : wPost q g μ Δ (Δ) K (fun t : Int64 => ∃ v : Int32, t = bl v ∧ (fun b => b = nI 1) v) v w1 := by rw [hK]; exact hp
  obtain ⟨rfl, σ1, f1, rfl, h1⟩ := hp
  refine gStk (st' := [.int (nI K)]) (pc' := 2836) rfl rfl ?_
  refine gIstore (pc := 2836) hC (lv' := [(6, .int (nI K)), (0, .ref b), (1, .ref (wx q)), (2, .ref (wm q)), (3, .ref (wo q)), (4, .ref (wd q)), (5, .int (nI (4 * t)))]) dL_law_2836 (by decide) rfl ?_
  refine gAloadN (pc := 2838) hC dL_law_2838 rfl 3 rfl ?_
  refine gAloadN (pc := 2839) hC dL_law_2839 rfl 1 rfl ?_
  refine gIload (pc := 2840) hC dL_law_2840 6 rfl ?_
  refine gIconst (pc := 2842) hC (v := (nI 1)) dL_law_2842 (by decide +kernel) ?_
  refine gIadd (pc := 2843) hC (v := nI (4 * t + 1)) dL_law_2843 (nI_add _ _) ?_
  refine gSld (pc := 2844) hC (v := x) hX (4 * t + 1) rfl (by omega) hN hx dL_law_2844 ?_
  refine gToM ?_
  refine gV (pc := 2845) (rest := []) (ci := 2) (q0 := 0) hM (c_X2_isInverse l D (LM q f1 g σ1) μ Δ x hμ) rfl rfl (cwV 1 hC.2.2.2.2.1 gL_law_X2_isInverse rfl rfl rfl (by decide +kernel) ⟨Nat.le_of_ble_eq_true rfl, Nat.le_of_ble_eq_true rfl⟩) rfl rfl (Nat.le_of_ble_eq_true rfl) dL_law_2845 ⟨Nat.le_trans (show k + 1 + 0 ≤ k + 8 by omega) hk, Nat.le_trans (show n + 6 + 0 ≤ n + 48 by omega) hn⟩ (fun v w1 hp => ?_)
  have hp : mPost (LM q f1 g σ1) Δ (Δ) K (fun b => b = nI 1) v w1 := by rw [hK]; exact hp
  obtain ⟨b1, rfl, μ1, rfl, hmt, h2⟩ := hp
  refine gStk (st' := [.int b1]) (pc' := 2848) rfl rfl ?_
  have hj := wJoin h1 h2
  refine gIstore (pc := 2848) hM (lv' := [(7, .int b1), (6, .int (nI K)), (0, .ref b), (1, .ref (wx q)), (2, .ref (wm q)), (3, .ref (wo q)), (4, .ref (wd q)), (5, .int (nI (4 * t)))]) dL_law_2848 (by decide) rfl ?_
  refine gAloadN (pc := 2850) hM dL_law_2850 rfl 4 rfl ?_
  refine gV (pc := 2851) (rest := []) (ci := 2) (q0 := 0) hM (c_X2_thrown l D (LM q f1 g σ1) μ1) rfl rfl (cwV 0 hC.2.2.2.2.1 gL_law_X2_thrown rfl rfl rfl (by decide +kernel) ⟨Nat.le_of_ble_eq_true rfl, Nat.le_of_ble_eq_true rfl⟩) rfl rfl (Nat.le_of_ble_eq_true rfl) dL_law_2851 ⟨Nat.le_trans (show k + 1 + 0 ≤ k + 8 by omega) hk, Nat.le_trans (show n + 6 + 0 ≤ n + 48 by omega) hn⟩ (fun v w1 hp => ?_)
  obtain ⟨rfl, rfl⟩ := hp
  refine gStk (st' := [.int (mt μ1)]) (pc' := 2854) rfl rfl ?_
  refine gIload (pc := 2854) hM dL_law_2854 1 rfl ?_
  refine gIcmp_eq (tgt := 2861) (pc := 2856) hM dL_law_2856 (by decide) (fun _ => ?_) (fun h => absurd hmt h)
  rcases hj with ⟨hK0, ⟨hcv, hσ1⟩, hvl, hμ1⟩ | ⟨hK1, hσ1, hμ1⟩
  · skip
    refine gIload (pc := 2861) hM dL_law_2861 1 rfl ?_
    refine gIf_ne (tgt := 2885) (pc := 2863) hM dL_law_2863 (by decide) (fun h => absurd (by rw [hK0]; rfl) h) (fun _ => ?_)
    obtain ⟨v0, hv0, hcv⟩ := hcv
    have hvb : v0 = b1 := hcv.trans hvl.symm
    refine gAloadN (pc := 2866) hM dL_law_2866 rfl 5 rfl ?_
    refine gIconst (pc := 2867) hM (v := (nI 0)) dL_law_2867 (by decide +kernel) ?_
    refine gLald (pc := 2868) hM 0 rfl (by decide) (by decide) 9 3 rfl rfl rfl dL_law_2868 ?_
    refine gIload (pc := 2869) hM dL_law_2869 0 rfl ?_
    refine gNl hM 2871 dL_law_2871 dL_law_2874 dL_law_2875 dL_law_2878 ?_
    refine gStk (st' := [.long (bl b1), .long (f1 0)]) (pc' := 2879) rfl rfl ?_
    refine gLcmp (v := nI 0) (pc := 2879) hM dL_law_2879 (by rw [hv0, hvb]; exact lg_cmp_self _) ?_
    refine gIf_eq (tgt := 2885) (pc := 2880) hM dL_law_2880 (by decide) (fun _ => ?_) (fun h => absurd rfl h)
    refine gGoto (pc := 2885) hM (tgt := 2915) dL_law_2885 (by decide) ?_
    refine gToC ?_
    refine gLoc (lv' := [(0, .ref b), (1, .ref (wx q)), (2, .ref (wm q)), (3, .ref (wo q)), (4, .ref (wd q)), (5, .int (nI (4 * t)))]) [2, 3, 4, 5, 6, 7] rfl ?_
    exact gWid (show k + 1 + 0 + 0 ≤ k + 8 by omega) (show n + 6 + 0 + 0 ≤ n + 48 by omega) (kk σ1 μ1 f1 g (Δ) hσ1 hμ1)
  · skip
    refine gIload (pc := 2861) hM dL_law_2861 1 rfl ?_
    refine gIf_ne (tgt := 2885) (pc := 2863) hM dL_law_2863 (by decide) (fun _ => ?_) (fun h => absurd h (hKn hK1))
    refine gGoto (pc := 2885) hM (tgt := 2915) dL_law_2885 (by decide) ?_
    refine gToC ?_
    refine gLoc (lv' := [(0, .ref b), (1, .ref (wx q)), (2, .ref (wm q)), (3, .ref (wo q)), (4, .ref (wd q)), (5, .int (nI (4 * t)))]) [2, 3, 4, 5, 6, 7] rfl ?_
    exact gWid (show k + 1 + 0 + 0 ≤ k + 8 by omega) (show n + 6 + 0 + 0 ≤ n + 48 by omega) (kk σ1 μ1 f1 g (Δ) hσ1 hμ1)

set_option maxRecDepth 100000 in
set_option maxHeartbeats 4000000 in
theorem lk_39 {p : Program} {l : Launch} {e : Env} {s : State} {m : MethodId} {args : Array Value} {below : List Frame} {meth : Method} {c : Code} {D : va_G} {A : Nat → Prop} {Q : State → Prop} (q : wLay) {b N : Nat} {xs : Nat → Int32} (hC : gC p s m args meth c cL_law 9 RL wsL_law D (wTy q) A) (hX : va_X b N xs s s.heap ∧ b < s.heap.size ∧ ¬ A b) (hl9 : l.stackTraces = false) (hN : N ≤ 2048) {t k n : Nat} (ht : 4 * t + 4 ≤ N) (hk : k + 8 ≤ 663840) (hn : n + 48 ≤ 7104584) {σ : cSt} {μ : mSt} {f : Nat → Int64} {g : Nat → UInt64} {Δ : dSt} (hσ : cRel σ Δ) (hμ : mRel μ Δ) (x y z : Int32) (hx : xs (4 * t + 1) = x) (hy : xs (4 * t + 2) = y) (hz : xs (4 * t + 3) = z) (kk : ∀ (σ' : cSt) (μ' : mSt) (f' : Nat → Int64) (g' : Nat → UInt64) (Δ' : dSt), cRel σ' Δ' → mRel μ' Δ' → gG p l e room_1 s m args below meth c D A 9 (k + 8) (n + 48) Q (WC (LC q f' g' μ') σ') 2915 [(0, .ref b), (1, .ref (wx q)), (2, .ref (wm q)), (3, .ref (wo q)), (4, .ref (wd q)), (5, .int (nI (4 * t)))] []) : gG p l e room_1 s m args below meth c D A 9 k n Q (WC (LC q f g μ) σ) 2888 [(0, .ref b), (1, .ref (wx q)), (2, .ref (wm q)), (3, .ref (wo q)), (4, .ref (wd q)), (5, .int (nI (4 * t)))] [] := by
  have hM := gCm hC
  refine gAloadN (pc := 2888) hC dL_law_2888 rfl 1 rfl ?_
  refine gV (pc := 2889) (rest := []) (ci := 1) (q0 := 0) hC (c_X1_isSound l D (LC q f g μ) σ Δ  hσ) rfl rfl (cwV 0 hC.2.2.2.2.1 gL_law_X1_isSound rfl rfl rfl (by decide +kernel) ⟨Nat.le_of_ble_eq_true rfl, Nat.le_of_ble_eq_true rfl⟩) rfl rfl (Nat.le_of_ble_eq_true rfl) dL_law_2889 ⟨Nat.le_trans (Nat.add_le_add_left (by decide) _) hk, Nat.le_trans (Nat.add_le_add_left (by decide) _) hn⟩ (fun v w1 hp => ?_)
  obtain ⟨rfl, σ1, rfl, hσ1⟩ := hp
  refine gStk (st' := [.int (nI 1)]) (pc' := 2892) rfl rfl ?_
  refine gAloadN (pc := 2892) hC dL_law_2892 rfl 2 rfl ?_
  refine gToM ?_
  refine gV (pc := 2893) (rest := [.int (nI 1)]) (ci := 2) (q0 := 0) hM (c_X2_isSound l D (LM q f g σ1) μ Δ  hμ) rfl rfl (cwV 0 hC.2.2.2.2.1 gL_law_X2_isSound rfl rfl rfl (by decide +kernel) ⟨Nat.le_of_ble_eq_true rfl, Nat.le_of_ble_eq_true rfl⟩) rfl rfl (Nat.le_of_ble_eq_true rfl) dL_law_2893 ⟨Nat.le_trans (Nat.add_le_add_left (by decide) _) hk, Nat.le_trans (Nat.add_le_add_left (by decide) _) hn⟩ (fun v w1 hp => ?_)
  obtain ⟨b1, rfl, μ1, rfl, hμ1, hb1⟩ := hp
  refine gStk (st' := [.int b1, .int (nI 1)]) (pc' := 2896) rfl rfl ?_
  refine gIcmp_eq (tgt := 2915) (pc := 2896) hM dL_law_2896 (by decide) (fun _ => ?_) (fun h => absurd hb1.symm h)
  refine gToC ?_
  exact gWid (show k + 0 + 0 ≤ k + 8 by omega) (show n + 0 + 0 ≤ n + 48 by omega) (kk σ1 μ1 f g Δ hσ1 hμ1)

set_option maxRecDepth 100000 in
set_option maxHeartbeats 4000000 in
theorem lk_40 {p : Program} {l : Launch} {e : Env} {s : State} {m : MethodId} {args : Array Value} {below : List Frame} {meth : Method} {c : Code} {D : va_G} {A : Nat → Prop} {Q : State → Prop} (q : wLay) {b N : Nat} {xs : Nat → Int32} (hC : gC p s m args meth c cL_law 9 RL wsL_law D (wTy q) A) (hX : va_X b N xs s s.heap ∧ b < s.heap.size ∧ ¬ A b) (hl9 : l.stackTraces = false) (hN : N ≤ 2048) {t k n : Nat} (ht : 4 * t + 4 ≤ N) (hk : k + 8 ≤ 663840) (hn : n + 48 ≤ 7104584) {σ : cSt} {μ : mSt} {f : Nat → Int64} {g : Nat → UInt64} {Δ : dSt} (hσ : cRel σ Δ) (hμ : mRel μ Δ) (x y z : Int32) (hx : xs (4 * t + 1) = x) (hy : xs (4 * t + 2) = y) (hz : xs (4 * t + 3) = z) (kk : ∀ (σ' : cSt) (μ' : mSt) (f' : Nat → Int64) (g' : Nat → UInt64) (Δ' : dSt), cRel σ' Δ' → mRel μ' Δ' → gG p l e room_1 s m args below meth c D A 9 (k + 8) (n + 48) Q (WC (LC q f' g' μ') σ') 2915 [(0, .ref b), (1, .ref (wx q)), (2, .ref (wm q)), (3, .ref (wo q)), (4, .ref (wd q)), (5, .int (nI (4 * t)))] []) : gG p l e room_1 s m args below meth c D A 9 k n Q (WC (LC q f g μ) σ) 2901 [(0, .ref b), (1, .ref (wx q)), (2, .ref (wm q)), (3, .ref (wo q)), (4, .ref (wd q)), (5, .int (nI (4 * t)))] [] := by
  have hM := gCm hC
  refine gAloadN (pc := 2901) hC dL_law_2901 rfl 1 rfl ?_
  refine gV (pc := 2902) (rest := []) (ci := 1) (q0 := 0) hC (c_X1_checksum l D (LC q f g μ) σ Δ  hσ) rfl rfl (cwV 0 hC.2.2.2.2.1 gL_law_X1_checksum rfl rfl rfl (by decide +kernel) ⟨Nat.le_of_ble_eq_true rfl, Nat.le_of_ble_eq_true rfl⟩) rfl rfl (Nat.le_of_ble_eq_true rfl) dL_law_2902 ⟨Nat.le_trans (Nat.add_le_add_left (by decide) _) hk, Nat.le_trans (Nat.add_le_add_left (by decide) _) hn⟩ (fun v w1 hp => ?_)
  obtain ⟨rfl, σ1, rfl, hσ1⟩ := hp
  refine gStk (st' := [.long (ckD Δ 4)]) (pc' := 2905) rfl rfl ?_
  refine gAloadN (pc := 2905) hC dL_law_2905 rfl 2 rfl ?_
  refine gToM ?_
  refine gV (pc := 2906) (rest := [.long (ckD Δ 4)]) (ci := 2) (q0 := 0) hM (c_X2_checksum l D (LM q f g σ1) μ Δ  hμ) rfl rfl (cwV 0 hC.2.2.2.2.1 gL_law_X2_checksum rfl rfl rfl (by decide +kernel) ⟨Nat.le_of_ble_eq_true rfl, Nat.le_of_ble_eq_true rfl⟩) rfl rfl (Nat.le_of_ble_eq_true rfl) dL_law_2906 ⟨Nat.le_trans (Nat.add_le_add_left (by decide) _) hk, Nat.le_trans (Nat.add_le_add_left (by decide) _) hn⟩ (fun v w1 hp => ?_)
  obtain ⟨b1, rfl, μ1, rfl, hμ1, hb1⟩ := hp
  refine gStk (st' := [.long b1, .long (ckD Δ 4)]) (pc' := 2909) rfl rfl ?_
  refine gLcmp (v := nI 0) (pc := 2909) hM dL_law_2909 (by rw [hb1]; exact lg_cmp_self _) ?_
  refine gIf_eq (tgt := 2915) (pc := 2910) hM dL_law_2910 (by decide) (fun _ => ?_) (fun h => absurd rfl h)
  refine gToC ?_
  exact gWid (show k + 0 + 0 ≤ k + 8 by omega) (show n + 0 + 0 ≤ n + 48 by omega) (kk σ1 μ1 f g Δ hσ1 hμ1)
