abbrev rmX2_values : Room := { frames := 4, cells := 0, slots := 0, locals := 94 }
set_option maxRecDepth 100000 in
set_option maxHeartbeats 4000000 in
theorem c_X2_values (l : Launch) (D : va_G) (L : mLay) (μ : mSt) (Δ : dSt) (x : Int32) (y : Int32) (hR : mRel μ Δ) : gM l yX2_values wsX2_values rmX2_values D (mTy L) (WM L μ) [.ref (kx L), .int x, .int y] 0 0 (fun r w => mPost L Δ (dRow Δ (rI x) (Δ.2.1 (rI x)) (ps (Δ.2.1 (rI x)) (un Δ.1 (Δ.2.1 (rI x))) 1 (Δ.2.2 (rI x)))) (kk1 (okR x)) (fun b => b = nI (cz (ps (Δ.2.1 (rI x)) (un Δ.1 (Δ.2.1 (rI x))) 1 (Δ.2.2 (rI x))) (Δ.2.1 (rI x)))) r w) := by
  refine gM.of (cc := cX2_values) (maxL := 3) (ret := (some .int)) (own := RX2) (by decide) rfl rfl (Nat.le_of_ble_eq_true rfl) rfl ?_
  intro p e s m args below meth c A Q hC hr hnm hQ
  refine gAloadN (pc := 0) hC dX2_values_0 rfl 0 rfl ?_
  refine gIloadN (pc := 1) hC dX2_values_1 rfl 1 rfl ?_
  refine gV (pc := 2) (rest := []) (ci := 2) (q0 := 0) hC (c_X2_lacks l D L μ x) rfl rfl (cwV 1 hC.2.2.2.2.1 gX2_values_X2_lacks rfl rfl rfl (by decide +kernel) ⟨Nat.le_of_ble_eq_true rfl, Nat.le_of_ble_eq_true rfl⟩) rfl rfl (Nat.le_of_ble_eq_true rfl) dX2_values_2 ⟨Nat.le_of_ble_eq_true rfl, Nat.le_of_ble_eq_true rfl⟩ (fun v w1 hp => ?_)
  obtain ⟨rfl, rfl⟩ := hp
  refine gStk (st' := [.int (bI (¬ (okR x)))]) (pc' := 5) rfl rfl ?_
  refine gIf_eq (pc := 5) hC (tgt := 10) dX2_values_5 (by decide) (fun hc1 => ?_) (fun hc1 => ?_)
  · skip
    have ok : okR x := nn (bI_0.mp hc1)
    obtain ⟨ν2, eν2, hRν2, htν2⟩ : ∃ ζ : mSt, ζ = (mTh μ (if okR x then nI 0 else nI 1)) ∧ mRel ζ Δ ∧ mt ζ = nI (kk1 (okR x)) := ⟨_, rfl, hR, (by rw [kk1_0 ok]; exact thr_t ok)⟩
    refine gWs (ws' := WM L ν2) (by first | (rw [eν2]; done) | (rw [eν2]; rfl)) ?_
    obtain ⟨hi, ei⟩ := ok.get
    have hl_ := hRν2.okl hi
    have hle := hRν2.len hi
    have hF := hRν2.is hi
    have hz := hRν2.zer hi
    have hN := hl_.N
    have hL := hN.le
    have hp := hN.pos
    have hx3 : Value.int x = Value.int (nI (rI x)) := congrArg Value.int ei
    refine gLocE (lv' := [(0, .ref (kx L)), (1, .int (nI (rI x))), (2, .int y)]) (by first | (rw [← hx3]; done) | (rw [← hx3]; rfl)) ?_
    refine gAloadN (pc := 10) hC dX2_values_10 rfl 0 rfl ?_
    refine gIloadN (pc := 11) hC dX2_values_11 rfl 1 rfl ?_
    refine gV (pc := 12) (rest := []) (ci := 2) (q0 := 0) hC (c_X2_valuesOf l D L ν2 (rI x) Δ hi hRν2) rfl rfl (cwV 1 hC.2.2.2.2.1 gX2_values_X2_valuesOf rfl rfl rfl (by decide +kernel) ⟨Nat.le_of_ble_eq_true rfl, Nat.le_of_ble_eq_true rfl⟩) rfl rfl (Nat.le_of_ble_eq_true rfl) dX2_values_12 ⟨Nat.le_of_ble_eq_true rfl, Nat.le_of_ble_eq_true rfl⟩ (fun v w1 hp => ?_)
    obtain ⟨rfl, ν1, rfl, h1⟩ := hp
    refine gStk (st' := []) (pc' := 15) rfl rfl ?_
    refine gAloadN (pc := 15) hC dX2_values_15 rfl 0 rfl ?_
    refine gIloadN (pc := 16) hC dX2_values_16 rfl 1 rfl ?_
    refine gV (pc := 17) (rest := []) (ci := 2) (q0 := 0) hC (c_X2_putZeros l D L ν1 (rI x) (Δ.2.1 (rI x)) (Δ.2.2 (rI x)) (ps (Δ.2.1 (rI x)) (un Δ.1 (Δ.2.1 (rI x))) 1 (Δ.2.2 (rI x))) hi (h1.len hle) (h1.is hF) h1.got (by omega)) rfl rfl (cwV 1 hC.2.2.2.2.1 gX2_values_X2_putZeros rfl rfl rfl (by decide +kernel) ⟨Nat.le_of_ble_eq_true rfl, Nat.le_of_ble_eq_true rfl⟩) rfl rfl (Nat.le_of_ble_eq_true rfl) dX2_values_17 ⟨Nat.le_of_ble_eq_true rfl, Nat.le_of_ble_eq_true rfl⟩ (fun v w1 hp => ?_)
    obtain ⟨rfl, ν2, rfl, h2⟩ := hp
    refine gStk (st' := [.int (nI (cz (ps (Δ.2.1 (rI x)) (un Δ.1 (Δ.2.1 (rI x))) 1 (Δ.2.2 (rI x))) (Δ.2.1 (rI x))))]) (pc' := 20) rfl rfl ?_
    exact gRetI hC hQ hr (Nat.le_of_ble_eq_true rfl) (Nat.le_of_ble_eq_true rfl) dX2_values_20 (⟨_, rfl, _, rfl, (h2.thr.trans (h1.thr.trans htν2)), Or.inl ⟨(kk1_0 ok), rfl, mFill.relput hRν2 hi h1 h2⟩⟩)
  · skip
    have nok : ¬ (okR x) := bI_n.mp hc1
    refine gIconst (pc := 8) hC (v := (nI 0)) dX2_values_8 (by decide +kernel) ?_
    exact gRetI hC hQ hr (Nat.le_of_ble_eq_true rfl) (Nat.le_of_ble_eq_true rfl) dX2_values_9 (⟨_, rfl, _, rfl, by rw [kk1_1 nok]; exact thr_f nok, Or.inr ⟨kne (kk1_1 nok) ne1, hR⟩⟩)

abbrev rmX2_back : Room := { frames := 4, cells := 0, slots := 0, locals := 95 }
set_option maxRecDepth 100000 in
set_option maxHeartbeats 4000000 in
theorem c_X2_back (l : Launch) (D : va_G) (L : mLay) (μ : mSt) (Δ : dSt) (x : Int32) (hR : mRel μ Δ) : gM l yX2_back wsX2_back rmX2_back D (mTy L) (WM L μ) [.ref (kx L), .int x] 0 0 (fun r w => mPost L Δ (dRow Δ (rI x) (Δ.2.1 (rI x)) (bk (Δ.2.1 (rI x)) (un Δ.1 (Δ.2.1 (rI x))) (Δ.2.2 (rI x)))) (kk1 (okR x)) (fun b => b = nI (cz (bk (Δ.2.1 (rI x)) (un Δ.1 (Δ.2.1 (rI x))) (Δ.2.2 (rI x))) (Δ.2.1 (rI x)))) r w) := by
  refine gM.of (cc := cX2_back) (maxL := 2) (ret := (some .int)) (own := RX2) (by decide) rfl rfl (Nat.le_of_ble_eq_true rfl) rfl ?_
  intro p e s m args below meth c A Q hC hr hnm hQ
  have hin2 : ∀ w ∈ u_ws RX2 TX2 6, w ∈ wsX2_back := by decide +kernel
  have hl11 : Cond.fieldLink RX2 11 "RootrowsModel" "numbers" "[[I" ∈ wsX2_back := by decide +kernel
  have hl14 : Cond.fieldLink RX2 14 "RootrowsModel" "lengths" "[I" ∈ wsX2_back := by decide +kernel
  refine gAloadN (pc := 0) hC dX2_back_0 rfl 0 rfl ?_
  refine gIloadN (pc := 1) hC dX2_back_1 rfl 1 rfl ?_
  refine gV (pc := 2) (rest := []) (ci := 2) (q0 := 0) hC (c_X2_lacks l D L μ x) rfl rfl (cwV 1 hC.2.2.2.2.1 gX2_back_X2_lacks rfl rfl rfl (by decide +kernel) ⟨Nat.le_of_ble_eq_true rfl, Nat.le_of_ble_eq_true rfl⟩) rfl rfl (Nat.le_of_ble_eq_true rfl) dX2_back_2 ⟨Nat.le_of_ble_eq_true rfl, Nat.le_of_ble_eq_true rfl⟩ (fun v w1 hp => ?_)
  obtain ⟨rfl, rfl⟩ := hp
  refine gStk (st' := [.int (bI (¬ (okR x)))]) (pc' := 5) rfl rfl ?_
  refine gIf_eq (pc := 5) hC (tgt := 10) dX2_back_5 (by decide) (fun hc1 => ?_) (fun hc1 => ?_)
  · skip
    have ok : okR x := nn (bI_0.mp hc1)
    obtain ⟨ν2, eν2, hRν2, htν2⟩ : ∃ ζ : mSt, ζ = (mTh μ (if okR x then nI 0 else nI 1)) ∧ mRel ζ Δ ∧ mt ζ = nI (kk1 (okR x)) := ⟨_, rfl, hR, (by rw [kk1_0 ok]; exact thr_t ok)⟩
    refine gWs (ws' := WM L ν2) (by first | (rw [eν2]; done) | (rw [eν2]; rfl)) ?_
    obtain ⟨hi, ei⟩ := ok.get
    have hl_ := hRν2.okl hi
    have hle := hRν2.len hi
    have hF := hRν2.is hi
    have hz := hRν2.zer hi
    have hN := hl_.N
    have hL := hN.le
    have hp := hN.pos
    have hx3 : Value.int x = Value.int (nI (rI x)) := congrArg Value.int ei
    refine gLocE (lv' := [(0, .ref (kx L)), (1, .int (nI (rI x)))]) (by first | (rw [← hx3]; done) | (rw [← hx3]; rfl)) ?_
    refine gAloadN (pc := 10) hC dX2_back_10 rfl 0 rfl ?_
    refine gAloadN (pc := 11) hC dX2_back_11 rfl 0 rfl ?_
    refine mGetArr (pc := 12) hC 0 (a := (kn L)) (by decide) ⟨rfl, rfl, rfl⟩ hin2 hl11 dX2_back_12 ?_
    refine gIloadN (pc := 15) hC dX2_back_15 rfl 1 rfl ?_
    refine mRowAld (pc := 16) hC (rI x) (rfl) (hi) dX2_back_16 ?_
    refine gAloadN (pc := 17) hC dX2_back_17 rfl 0 rfl ?_
    refine mGetArr (pc := 18) hC 1 (a := (kl L)) (by decide) ⟨rfl, rfl, rfl⟩ hin2 hl14 dX2_back_18 ?_
    refine gIloadN (pc := 21) hC dX2_back_21 rfl 1 rfl ?_
    refine mLenLd (pc := 22) hC (v := (nI (Δ.2.1 (rI x)))) (rI x) (rfl) (hi) (hle) dX2_back_22 ?_
    refine gV (pc := 23) (rest := []) (ci := 2) (q0 := 0) hC (c_X2_backOf l D L ν2 (rI x) (Δ.2.1 (rI x)) Δ.1 (Δ.2.2 (rI x)) (by omega) hF hl_ hRν2.1 hRν2.2.1.2) rfl rfl (cwV 2 hC.2.2.2.2.1 gX2_back_X2_backOf rfl rfl rfl (by decide +kernel) ⟨Nat.le_of_ble_eq_true rfl, Nat.le_of_ble_eq_true rfl⟩) rfl rfl (Nat.le_of_ble_eq_true rfl) dX2_back_23 ⟨Nat.le_of_ble_eq_true rfl, Nat.le_of_ble_eq_true rfl⟩ (fun v w1 hp => ?_)
    obtain ⟨rfl, ν1, rfl, h1⟩ := hp
    refine gStk (st' := []) (pc' := 26) rfl rfl ?_
    refine gAloadN (pc := 26) hC dX2_back_26 rfl 0 rfl ?_
    refine gIloadN (pc := 27) hC dX2_back_27 rfl 1 rfl ?_
    refine gV (pc := 28) (rest := []) (ci := 2) (q0 := 0) hC (c_X2_putZeros l D L ν1 (rI x) (Δ.2.1 (rI x)) (Δ.2.2 (rI x)) (bk (Δ.2.1 (rI x)) (un Δ.1 (Δ.2.1 (rI x))) (Δ.2.2 (rI x))) hi (h1.len hle) (h1.is hF) h1.got (by omega)) rfl rfl (cwV 1 hC.2.2.2.2.1 gX2_back_X2_putZeros rfl rfl rfl (by decide +kernel) ⟨Nat.le_of_ble_eq_true rfl, Nat.le_of_ble_eq_true rfl⟩) rfl rfl (Nat.le_of_ble_eq_true rfl) dX2_back_28 ⟨Nat.le_of_ble_eq_true rfl, Nat.le_of_ble_eq_true rfl⟩ (fun v w1 hp => ?_)
    obtain ⟨rfl, ν2, rfl, h2⟩ := hp
    refine gStk (st' := [.int (nI (cz (bk (Δ.2.1 (rI x)) (un Δ.1 (Δ.2.1 (rI x))) (Δ.2.2 (rI x))) (Δ.2.1 (rI x))))]) (pc' := 31) rfl rfl ?_
    exact gRetI hC hQ hr (Nat.le_of_ble_eq_true rfl) (Nat.le_of_ble_eq_true rfl) dX2_back_31 (⟨_, rfl, _, rfl, (h2.thr.trans (h1.thr.trans htν2)), Or.inl ⟨(kk1_0 ok), rfl, mFill.relput hRν2 hi h1 h2⟩⟩)
  · skip
    have nok : ¬ (okR x) := bI_n.mp hc1
    refine gIconst (pc := 8) hC (v := (nI 0)) dX2_back_8 (by decide +kernel) ?_
    exact gRetI hC hQ hr (Nat.le_of_ble_eq_true rfl) (Nat.le_of_ble_eq_true rfl) dX2_back_9 (⟨_, rfl, _, rfl, by rw [kk1_1 nok]; exact thr_f nok, Or.inr ⟨kne (kk1_1 nok) ne1, hR⟩⟩)

abbrev rmX2_valueAt : Room := { frames := 2, cells := 0, slots := 0, locals := 43 }
set_option maxRecDepth 100000 in
set_option maxHeartbeats 4000000 in
theorem c_X2_valueAt (l : Launch) (D : va_G) (L : mLay) (μ : mSt) (Δ : dSt) (x : Int32) (y : Int32) (hR : mRel μ Δ) : gM l yX2_valueAt wsX2_valueAt rmX2_valueAt D (mTy L) (WM L μ) [.ref (kx L), .int x, .int y] 0 0 (fun r w => mPost L Δ Δ (kk2 (okR x) (okNum y)) (fun b => b = nI (hrn (Δ.2.2 (rI x)) (nu y) (Δ.2.1 (rI x)) 0).val) r w) := by
  refine gM.of (cc := cX2_valueAt) (maxL := 5) (ret := (some .int)) (own := RX2) (by decide) rfl rfl (Nat.le_of_ble_eq_true rfl) rfl ?_
  intro p e s m args below meth c A Q hC hr hnm hQ
  have hin2 : ∀ w ∈ u_ws RX2 TX2 6, w ∈ wsX2_valueAt := by decide +kernel
  have hl11 : Cond.fieldLink RX2 11 "RootrowsModel" "numbers" "[[I" ∈ wsX2_valueAt := by decide +kernel
  have hl14 : Cond.fieldLink RX2 14 "RootrowsModel" "lengths" "[I" ∈ wsX2_valueAt := by decide +kernel
  refine gAloadN (pc := 0) hC dX2_valueAt_0 rfl 0 rfl ?_
  refine gIloadN (pc := 1) hC dX2_valueAt_1 rfl 1 rfl ?_
  refine gV (pc := 2) (rest := []) (ci := 2) (q0 := 0) hC (c_X2_lacks l D L μ x) rfl rfl (cwV 1 hC.2.2.2.2.1 gX2_valueAt_X2_lacks rfl rfl rfl (by decide +kernel) ⟨Nat.le_of_ble_eq_true rfl, Nat.le_of_ble_eq_true rfl⟩) rfl rfl (Nat.le_of_ble_eq_true rfl) dX2_valueAt_2 ⟨Nat.le_of_ble_eq_true rfl, Nat.le_of_ble_eq_true rfl⟩ (fun v w1 hp => ?_)
  obtain ⟨rfl, rfl⟩ := hp
  refine gStk (st' := [.int (bI (¬ (okR x)))]) (pc' := 5) rfl rfl ?_
  refine gIf_ne (pc := 5) hC (tgt := 23) dX2_valueAt_5 (by decide) (fun hc1 => ?_) (fun hc1 => ?_)
  · skip
    have nok : ¬ (okR x) := bI_n.mp hc1
    refine gIconst (pc := 23) hC (v := (nI 0)) dX2_valueAt_23 (by decide +kernel) ?_
    exact gRetI hC hQ hr (Nat.le_of_ble_eq_true rfl) (Nat.le_of_ble_eq_true rfl) dX2_valueAt_24 (⟨_, rfl, _, rfl, by rw [kk2_1 nok]; exact thr_f nok, Or.inr ⟨kne (kk2_1 nok) ne1, hR⟩⟩)
  · skip
    have ok : okR x := nn (bI_0.mp hc1)
    refine gAloadN (pc := 8) hC dX2_valueAt_8 rfl 0 rfl ?_
    refine gIloadN (pc := 9) hC dX2_valueAt_9 rfl 2 rfl ?_
    refine gIconst (pc := 10) hC (v := (nI 0)) dX2_valueAt_10 (by decide +kernel) ?_
    refine gLdc (pc := 11) hC (v := 65536) dX2_valueAt_11 (by decide +kernel) ?_
    refine gS (pc := 13) (rest := [.ref (kx L)]) hC (c_X2_in l D _ _ y (nI 0) (nI 65536)) (va_cwS 3 hC.2.2.2.2.1 gX2_valueAt_X2_in rfl rfl rfl (by decide +kernel) ⟨Nat.le_of_ble_eq_true rfl, Nat.le_of_ble_eq_true rfl⟩) rfl rfl (Nat.le_of_ble_eq_true rfl) dX2_valueAt_13 ⟨Nat.le_of_ble_eq_true rfl, Nat.le_of_ble_eq_true rfl⟩ (fun v w1 hp => ?_)
    obtain ⟨rfl, rfl⟩ := hp
    rw [bI_c m_num]
    refine gStk (st' := [.int (bI (okNum y)), .ref (kx L)]) (pc' := 16) rfl rfl ?_
    refine gIconst (pc := 16) hC (v := (nI 2)) dX2_valueAt_16 (by decide +kernel) ?_
    refine gV (pc := 17) (rest := []) (ci := 2) (q0 := 0) hC (c_X2_no l D L (mTh μ (if okR x then nI 0 else nI 1)) (okNum y) (nI 2)) rfl rfl (cwV 2 hC.2.2.2.2.1 gX2_valueAt_X2_no rfl rfl rfl (by decide +kernel) ⟨Nat.le_of_ble_eq_true rfl, Nat.le_of_ble_eq_true rfl⟩) rfl rfl (Nat.le_of_ble_eq_true rfl) dX2_valueAt_17 ⟨Nat.le_of_ble_eq_true rfl, Nat.le_of_ble_eq_true rfl⟩ (fun v w1 hp => ?_)
    obtain ⟨rfl, rfl⟩ := hp
    refine gStk (st' := [.int (bI (¬ (okNum y)))]) (pc' := 20) rfl rfl ?_
    refine gIf_eq (pc := 20) hC (tgt := 25) dX2_valueAt_20 (by decide) (fun hc2 => ?_) (fun hc2 => ?_)
    · skip
      have ok2 : okNum y := nn (bI_0.mp hc2)
      obtain ⟨ν3, eν3, hRν3, htν3⟩ : ∃ ζ : mSt, ζ = (mTh μ (if okNum y then nI 0 else nI 2)) ∧ mRel ζ Δ ∧ mt ζ = nI (kk2 (okR x) (okNum y)) := ⟨_, rfl, hR, (by rw [kk2_0 ok ok2]; exact thr_t ok2)⟩
      refine gWs (ws' := WM L ν3) (by first | (rw [eν3]; done) | (rw [eν3]; rfl)) ?_
      obtain ⟨hi, ei⟩ := ok.get
      have hl_ := hRν3.okl hi
      have hle := hRν3.len hi
      have hF := hRν3.is hi
      have hz := hRν3.zer hi
      have hN := hl_.N
      have hL := hN.le
      have hp := hN.pos
      have hx4 : Value.int x = Value.int (nI (rI x)) := congrArg Value.int ei
      refine gLocE (lv' := [(0, .ref (kx L)), (1, .int (nI (rI x))), (2, .int y)]) (by first | (rw [← hx4]; done) | (rw [← hx4]; rfl)) ?_
      have en := nu_val ok2
      refine gIconst (pc := 25) hC (v := (nI 0)) dX2_valueAt_25 (by decide +kernel) ?_
      refine gIstoreN (pc := 26) hC (lv' := [(3, .int (nI 0)), (0, .ref (kx L)), (1, .int (nI (rI x))), (2, .int y)]) dX2_valueAt_26 rfl (by decide) rfl ?_
      refine gAloadN (pc := 27) hC dX2_valueAt_27 rfl 1 rfl ?_
      refine mGetArr (pc := 28) hC 1 (a := (kl L)) (by decide) ⟨rfl, rfl, rfl⟩ hin2 hl14 dX2_valueAt_28 ?_
      refine gIloadN (pc := 31) hC dX2_valueAt_31 rfl 2 rfl ?_
      refine mLenLd (pc := 32) hC (v := (nI (Δ.2.1 (rI x)))) (rI x) (rfl) (hi) (hle) dX2_valueAt_32 ?_
      refine gIconst (pc := 33) hC (v := (nI 1)) dX2_valueAt_33 (by decide +kernel) ?_
      refine gIsub (pc := 34) hC (v := (nI (Δ.2.1 (rI x)) - nI 1)) dX2_valueAt_34 (rfl) ?_
      refine gIstore (pc := 35) hC (lv' := [(4, .int (nI (Δ.2.1 (rI x)) - nI 1)), (3, .int (nI 0)), (0, .ref (kx L)), (1, .int (nI (rI x))), (2, .int y)]) dX2_valueAt_35 (by decide) rfl ?_
      refine gLoc (lv' := [(4, .int (nI (Δ.2.1 (rI x)) - nI 1)), (3, .int (nI 0)), (2, .int y), (0, .ref (kx L)), (1, .int (nI (rI x)))]) [0, 1, 4, 2, 3] rfl ?_
      refine loopUp (S := (Int32 × Int32)) (fun i ζ => gG p l e rmX2_valueAt s m args below meth c D A 5 0 0 Q (WM L ν3) 37 [(4, .int (ζ.2)), (3, .int (ζ.1)), (2, .int y), (0, .ref (kx L)), (1, .int (nI (rI x)))] []) (fun i ζ => ζ.1 = nI (hrn (Δ.2.2 (rI x)) (nu y) i ((Δ.2.1 (rI x)) - i)).val ∧ ζ.2 = nI ((Δ.2.1 (rI x)) - i) - nI 1) (Δ.2.1 (rI x)) ?_ ?_ 0 ((nI 0), (nI (Δ.2.1 (rI x)) - nI 1)) (by omega) (⟨rfl, rfl⟩)
      · intro ζ hI
        obtain ⟨c1, c2⟩ := ζ
        try dsimp only at hI ⊢
        refine gIload (pc := 37) hC dX2_valueAt_37 0 rfl ?_
        rw [hI.2, Nat.sub_self]
        refine gIf_lt (pc := 39) hC (tgt := 65) dX2_valueAt_39 (by decide) (fun hc5 => ?_) (fun hc5 => absurd (by decide) hc5)
        refine gIloadN (pc := 65) hC dX2_valueAt_65 rfl 1 rfl ?_
        exact gRetI hC hQ hr (Nat.le_of_ble_eq_true rfl) (Nat.le_of_ble_eq_true rfl) dX2_valueAt_66 (⟨_, rfl, _, rfl, htν3, Or.inl ⟨(kk2_0 ok ok2), by rw [hI.1, Nat.sub_self], hRν3⟩⟩)
      · intro i ζ hi9 hI ih
        obtain ⟨c1, c2⟩ := ζ
        try dsimp only at hI ih ⊢
        obtain ⟨j, ej⟩ : ∃ j, (Δ.2.1 (rI x)) - i = j + 1 := ⟨(Δ.2.1 (rI x)) - i - 1, by omega⟩
        have e2 : c2 = nI j := by rw [hI.2, ej]; exact nI_pred j
        have e1 : c1 = nI (hrn (Δ.2.2 (rI x)) (nu y) i (j + 1)).val := by rw [hI.1, ej]
        subst e2
        refine gIload (pc := 37) hC dX2_valueAt_37 0 rfl ?_
        refine gIf_lt (pc := 39) hC (tgt := 65) dX2_valueAt_39 (by decide) (fun hc6 => absurd hc6 (nI_pos (by omega))) (fun hc6 => ?_)
        refine gIloadN (pc := 42) hC dX2_valueAt_42 rfl 1 rfl ?_
        refine gI2l (pc := 43) hC (v := (lN (hrn (Δ.2.2 (rI x)) (nu y) i (j + 1)).val)) dX2_valueAt_43 (by rw [e1]; exact nI_l (by have := (hrn (Δ.2.2 (rI x)) (nu y) i (j + 1)).isLt; omega)) ?_
        refine gIloadN (pc := 44) hC dX2_valueAt_44 rfl 2 rfl ?_
        refine gI2l (pc := 45) hC (v := (lN (nu y).val)) dX2_valueAt_45 ((congrArg Int32.toInt64 en).trans (nI_l (by have := (nu y).isLt; omega))) ?_
        refine gAloadN (pc := 46) hC dX2_valueAt_46 rfl 3 rfl ?_
        refine mGetArr (pc := 47) hC 0 (a := (kn L)) (by decide) ⟨rfl, rfl, rfl⟩ hin2 hl11 dX2_valueAt_47 ?_
        refine gIloadN (pc := 50) hC dX2_valueAt_50 rfl 4 rfl ?_
        refine mRowAld (pc := 51) hC (rI x) (rfl) (hi) dX2_valueAt_51 ?_
        refine gIload (pc := 52) hC dX2_valueAt_52 0 rfl ?_
        refine mNumLd (pc := 54) hC (K := (rI x)) (v := (nI ((Δ.2.2 (rI x)) j).val)) (by omega) j (rfl) (by omega) (hF _ (by omega)) dX2_valueAt_54 ?_
        refine gS (pc := 55) (rest := []) hC (c_X2_product l D _ _ _ _ _ (hrn (Δ.2.2 (rI x)) (nu y) i (j + 1)) (nu y) ((Δ.2.2 (rI x)) j) rfl rfl rfl) (va_cwS 3 hC.2.2.2.2.1 gX2_valueAt_X2_product rfl rfl rfl (by decide +kernel) ⟨Nat.le_of_ble_eq_true rfl, Nat.le_of_ble_eq_true rfl⟩) rfl rfl (Nat.le_of_ble_eq_true rfl) dX2_valueAt_55 ⟨Nat.le_of_ble_eq_true rfl, Nat.le_of_ble_eq_true rfl⟩ (fun v w1 hp => ?_)
        obtain ⟨rfl, rfl⟩ := hp
        refine gStk (st' := [.int (nI (hrn (Δ.2.2 (rI x)) (nu y) i (j + 1) * nu y + (Δ.2.2 (rI x)) j).val)]) (pc' := 58) rfl rfl ?_
        refine gIstoreN (pc := 58) hC (lv' := [(3, .int (nI (hrn (Δ.2.2 (rI x)) (nu y) i (j + 1) * nu y + (Δ.2.2 (rI x)) j).val)), (4, .int (nI j)), (2, .int y), (0, .ref (kx L)), (1, .int (nI (rI x)))]) dX2_valueAt_58 rfl (by decide) rfl ?_
        refine gIinc (pc := 59) hC (v := (nI j - nI 1)) (lv' := [(4, .int (nI j - nI 1)), (3, .int (nI (hrn (Δ.2.2 (rI x)) (nu y) i (j + 1) * nu y + (Δ.2.2 (rI x)) j).val)), (2, .int y), (0, .ref (kx L)), (1, .int (nI (rI x)))]) dX2_valueAt_59 (q := 1) rfl (by rw [Int32.sub_eq_add_neg]; exact congrArg (nI j + ·) (by decide +kernel)) (by decide) rfl ?_
        refine gGoto (pc := 62) hC (tgt := 37) dX2_valueAt_62 (by decide) ?_
        refine gLoc (lv' := [(4, .int (nI j - nI 1)), (3, .int (nI (hrn (Δ.2.2 (rI x)) (nu y) i (j + 1) * nu y + (Δ.2.2 (rI x)) j).val)), (2, .int y), (0, .ref (kx L)), (1, .int (nI (rI x)))]) [0, 1, 2, 3, 4] rfl ?_
        exact ih ((nI (hrn (Δ.2.2 (rI x)) (nu y) i (j + 1) * nu y + (Δ.2.2 (rI x)) j).val), (nI j - nI 1)) (by rw [show (Δ.2.1 (rI x)) - (i + 1) = j by omega]; exact ⟨rfl, rfl⟩)
    · skip
      have nok2 : ¬ (okNum y) := bI_n.mp hc2
      refine gIconst (pc := 23) hC (v := (nI 0)) dX2_valueAt_23 (by decide +kernel) ?_
      exact gRetI hC hQ hr (Nat.le_of_ble_eq_true rfl) (Nat.le_of_ble_eq_true rfl) dX2_valueAt_24 (⟨_, rfl, _, rfl, by rw [kk2_2 ok nok2]; exact thr_f nok2, Or.inr ⟨kne (kk2_2 ok nok2) ne2, hR⟩⟩)

abbrev rmX2_support : Room := { frames := 4, cells := 0, slots := 0, locals := 94 }
set_option maxRecDepth 100000 in
set_option maxHeartbeats 4000000 in
theorem c_X2_support (l : Launch) (D : va_G) (L : mLay) (μ : mSt) (Δ : dSt) (x : Int32) (hR : mRel μ Δ) : gM l yX2_support wsX2_support rmX2_support D (mTy L) (WM L μ) [.ref (kx L), .int x] 0 0 (fun r w => mPost L Δ Δ (kk1 (okR x)) (fun b => b = nI (spt (ps (Δ.2.1 (rI x)) (un Δ.1 (Δ.2.1 (rI x))) 1 (Δ.2.2 (rI x))) (Δ.2.1 (rI x)))) r w) := by
  refine gM.of (cc := cX2_support) (maxL := 4) (ret := (some .int)) (own := RX2) (by decide) rfl rfl (Nat.le_of_ble_eq_true rfl) rfl ?_
  intro p e s m args below meth c A Q hC hr hnm hQ
  have hin2 : ∀ w ∈ u_ws RX2 TX2 6, w ∈ wsX2_support := by decide +kernel
  have hl14 : Cond.fieldLink RX2 14 "RootrowsModel" "lengths" "[I" ∈ wsX2_support := by decide +kernel
  have hl18 : Cond.fieldLink RX2 18 "RootrowsModel" "made" "[I" ∈ wsX2_support := by decide +kernel
  refine gAloadN (pc := 0) hC dX2_support_0 rfl 0 rfl ?_
  refine gIloadN (pc := 1) hC dX2_support_1 rfl 1 rfl ?_
  refine gV (pc := 2) (rest := []) (ci := 2) (q0 := 0) hC (c_X2_lacks l D L μ x) rfl rfl (cwV 1 hC.2.2.2.2.1 gX2_support_X2_lacks rfl rfl rfl (by decide +kernel) ⟨Nat.le_of_ble_eq_true rfl, Nat.le_of_ble_eq_true rfl⟩) rfl rfl (Nat.le_of_ble_eq_true rfl) dX2_support_2 ⟨Nat.le_of_ble_eq_true rfl, Nat.le_of_ble_eq_true rfl⟩ (fun v w1 hp => ?_)
  obtain ⟨rfl, rfl⟩ := hp
  refine gStk (st' := [.int (bI (¬ (okR x)))]) (pc' := 5) rfl rfl ?_
  refine gIf_eq (pc := 5) hC (tgt := 10) dX2_support_5 (by decide) (fun hc1 => ?_) (fun hc1 => ?_)
  · skip
    have ok : okR x := nn (bI_0.mp hc1)
    obtain ⟨ν2, eν2, hRν2, htν2⟩ : ∃ ζ : mSt, ζ = (mTh μ (if okR x then nI 0 else nI 1)) ∧ mRel ζ Δ ∧ mt ζ = nI (kk1 (okR x)) := ⟨_, rfl, hR, (by rw [kk1_0 ok]; exact thr_t ok)⟩
    refine gWs (ws' := WM L ν2) (by first | (rw [eν2]; done) | (rw [eν2]; rfl)) ?_
    obtain ⟨hi, ei⟩ := ok.get
    have hl_ := hRν2.okl hi
    have hle := hRν2.len hi
    have hF := hRν2.is hi
    have hz := hRν2.zer hi
    have hN := hl_.N
    have hL := hN.le
    have hp := hN.pos
    have hx3 : Value.int x = Value.int (nI (rI x)) := congrArg Value.int ei
    refine gLocE (lv' := [(0, .ref (kx L)), (1, .int (nI (rI x)))]) (by first | (rw [← hx3]; done) | (rw [← hx3]; rfl)) ?_
    refine gAloadN (pc := 10) hC dX2_support_10 rfl 0 rfl ?_
    refine gIloadN (pc := 11) hC dX2_support_11 rfl 1 rfl ?_
    refine gV (pc := 12) (rest := []) (ci := 2) (q0 := 0) hC (c_X2_valuesOf l D L ν2 (rI x) Δ hi hRν2) rfl rfl (cwV 1 hC.2.2.2.2.1 gX2_support_X2_valuesOf rfl rfl rfl (by decide +kernel) ⟨Nat.le_of_ble_eq_true rfl, Nat.le_of_ble_eq_true rfl⟩) rfl rfl (Nat.le_of_ble_eq_true rfl) dX2_support_12 ⟨Nat.le_of_ble_eq_true rfl, Nat.le_of_ble_eq_true rfl⟩ (fun v w1 hp => ?_)
    obtain ⟨rfl, ν1, rfl, h1⟩ := hp
    refine gStk (st' := []) (pc' := 15) rfl rfl ?_
    have hF9 := h1.is hF
    have hle9 := h1.len hle
    refine gIconst (pc := 15) hC (v := (nI 0)) dX2_support_15 (by decide +kernel) ?_
    refine gIstoreN (pc := 16) hC (lv' := [(2, .int (nI 0)), (0, .ref (kx L)), (1, .int (nI (rI x)))]) dX2_support_16 rfl (by decide) rfl ?_
    refine gIconst (pc := 17) hC (v := (nI 0)) dX2_support_17 (by decide +kernel) ?_
    refine gIstoreN (pc := 18) hC (lv' := [(3, .int (nI 0)), (2, .int (nI 0)), (0, .ref (kx L)), (1, .int (nI (rI x)))]) dX2_support_18 rfl (by decide) rfl ?_
    refine gLoc (lv' := [(3, .int (nI 0)), (2, .int (nI 0)), (0, .ref (kx L)), (1, .int (nI (rI x)))]) [0, 1, 2, 3] rfl ?_
    refine loopUp (S := Int32) (fun i ζ => gG p l e rmX2_support s m args below meth c D A 4 0 0 Q (WM L ν1) 19 [(3, .int (nI i)), (2, .int ζ), (0, .ref (kx L)), (1, .int (nI (rI x)))] []) (fun i ζ => ζ = nI (spt (ps (Δ.2.1 (rI x)) (un Δ.1 (Δ.2.1 (rI x))) 1 (Δ.2.2 (rI x))) i)) (Δ.2.1 (rI x)) ?_ ?_ 0 ((nI 0)) (by omega) (rfl)
    · intro ζ hI
      revert hI; generalize ζ = c1; intro hI
      refine gIloadN (pc := 19) hC dX2_support_19 rfl 0 rfl ?_
      refine gAloadN (pc := 20) hC dX2_support_20 rfl 2 rfl ?_
      refine mGetArr (pc := 21) hC 1 (a := (kl L)) (by decide) ⟨rfl, rfl, rfl⟩ hin2 hl14 dX2_support_21 ?_
      refine gIloadN (pc := 24) hC dX2_support_24 rfl 3 rfl ?_
      refine mLenLd (pc := 25) hC (v := (nI (Δ.2.1 (rI x)))) (rI x) (rfl) (hi) (hle9) dX2_support_25 ?_
      refine gIcmp_ge (pc := 26) hC (tgt := 54) dX2_support_26 (by decide) (fun hc4 => ?_) (fun hc4 => absurd (nI_le (Nat.le_refl _) (by omega)) hc4)
      refine gIloadN (pc := 54) hC dX2_support_54 rfl 1 rfl ?_
      exact gRetI hC hQ hr (Nat.le_of_ble_eq_true rfl) (Nat.le_of_ble_eq_true rfl) dX2_support_55 (⟨_, rfl, _, rfl, (h1.thr.trans htν2), Or.inl ⟨(kk1_0 ok), by rw [hI], (h1.rel hRν2)⟩⟩)
    · intro i ζ hi9 hI ih
      revert hI; generalize ζ = c1; intro hI
      refine gIloadN (pc := 19) hC dX2_support_19 rfl 0 rfl ?_
      refine gAloadN (pc := 20) hC dX2_support_20 rfl 2 rfl ?_
      refine mGetArr (pc := 21) hC 1 (a := (kl L)) (by decide) ⟨rfl, rfl, rfl⟩ hin2 hl14 dX2_support_21 ?_
      refine gIloadN (pc := 24) hC dX2_support_24 rfl 3 rfl ?_
      refine mLenLd (pc := 25) hC (v := (nI (Δ.2.1 (rI x)))) (rI x) (rfl) (hi) (hle9) dX2_support_25 ?_
      refine gIcmp_ge (pc := 26) hC (tgt := 54) dX2_support_26 (by decide) (fun hc5 => absurd hc5 (nI_ge hi9 (by omega))) (fun hc5 => ?_)
      refine gIloadN (pc := 29) hC dX2_support_29 rfl 1 rfl ?_
      refine gAloadN (pc := 30) hC dX2_support_30 rfl 2 rfl ?_
      refine mGetArr (pc := 31) hC 2 (a := (km L)) (by decide) ⟨rfl, rfl, rfl⟩ hin2 hl18 dX2_support_31 ?_
      refine gIloadN (pc := 34) hC dX2_support_34 rfl 0 rfl ?_
      refine mMadLd (pc := 35) hC (v := (nI ((ps (Δ.2.1 (rI x)) (un Δ.1 (Δ.2.1 (rI x))) 1 (Δ.2.2 (rI x))) i).val)) i (rfl) (by omega) (h1.got _ (by omega)) dX2_support_35 ?_
      refine gIf_ne (pc := 36) hC (tgt := 43) dX2_support_36 (by decide) (fun hc6 => ?_) (fun hc6 => ?_)
      · skip
        refine gIconst (pc := 43) hC (v := (nI 1)) dX2_support_43 (by decide +kernel) ?_
        refine gIloadN (pc := 44) hC dX2_support_44 rfl 0 rfl ?_
        refine gIshl (pc := 45) hC (v := (nI (2 ^ i))) dX2_support_45 (j_bit (by omega)) ?_
        refine gIadd (pc := 46) hC (v := (nI (spt (ps (Δ.2.1 (rI x)) (un Δ.1 (Δ.2.1 (rI x))) 1 (Δ.2.2 (rI x))) (i + 1)))) dX2_support_46 (by rw [hI]; exact spt_f _ (fun h => hc6 ((val0 _).mpr h))) ?_
        refine gIstoreN (pc := 47) hC (lv' := [(2, .int (nI (spt (ps (Δ.2.1 (rI x)) (un Δ.1 (Δ.2.1 (rI x))) 1 (Δ.2.2 (rI x))) (i + 1)))), (3, .int (nI i)), (0, .ref (kx L)), (1, .int (nI (rI x)))]) dX2_support_47 rfl (by decide) rfl ?_
        refine gIinc (pc := 48) hC (v := (nI (i + 1))) (lv' := [(3, .int (nI (i + 1))), (2, .int (nI (spt (ps (Δ.2.1 (rI x)) (un Δ.1 (Δ.2.1 (rI x))) 1 (Δ.2.2 (rI x))) (i + 1)))), (0, .ref (kx L)), (1, .int (nI (rI x)))]) dX2_support_48 (q := 1) rfl (nI_1 _) (by decide) rfl ?_
        refine gGoto (pc := 51) hC (tgt := 19) dX2_support_51 (by decide) ?_
        refine gLoc (lv' := [(3, .int (nI (i + 1))), (2, .int (nI (spt (ps (Δ.2.1 (rI x)) (un Δ.1 (Δ.2.1 (rI x))) 1 (Δ.2.2 (rI x))) (i + 1)))), (0, .ref (kx L)), (1, .int (nI (rI x)))]) [0, 1, 2, 3] rfl ?_
        exact ih ((nI (spt (ps (Δ.2.1 (rI x)) (un Δ.1 (Δ.2.1 (rI x))) 1 (Δ.2.2 (rI x))) (i + 1)))) (rfl)
      · skip
        refine gIconst (pc := 39) hC (v := (nI 0)) dX2_support_39 (by decide +kernel) ?_
        refine gGoto (pc := 40) hC (tgt := 46) dX2_support_40 (by decide) ?_
        refine gIadd (pc := 46) hC (v := (nI (spt (ps (Δ.2.1 (rI x)) (un Δ.1 (Δ.2.1 (rI x))) 1 (Δ.2.2 (rI x))) (i + 1)))) dX2_support_46 (by rw [hI]; exact spt_t _ ((val0 _).mp hc6)) ?_
        refine gIstoreN (pc := 47) hC (lv' := [(2, .int (nI (spt (ps (Δ.2.1 (rI x)) (un Δ.1 (Δ.2.1 (rI x))) 1 (Δ.2.2 (rI x))) (i + 1)))), (3, .int (nI i)), (0, .ref (kx L)), (1, .int (nI (rI x)))]) dX2_support_47 rfl (by decide) rfl ?_
        refine gIinc (pc := 48) hC (v := (nI (i + 1))) (lv' := [(3, .int (nI (i + 1))), (2, .int (nI (spt (ps (Δ.2.1 (rI x)) (un Δ.1 (Δ.2.1 (rI x))) 1 (Δ.2.2 (rI x))) (i + 1)))), (0, .ref (kx L)), (1, .int (nI (rI x)))]) dX2_support_48 (q := 1) rfl (nI_1 _) (by decide) rfl ?_
        refine gGoto (pc := 51) hC (tgt := 19) dX2_support_51 (by decide) ?_
        refine gLoc (lv' := [(3, .int (nI (i + 1))), (2, .int (nI (spt (ps (Δ.2.1 (rI x)) (un Δ.1 (Δ.2.1 (rI x))) 1 (Δ.2.2 (rI x))) (i + 1)))), (0, .ref (kx L)), (1, .int (nI (rI x)))]) [0, 1, 2, 3] rfl ?_
        exact ih ((nI (spt (ps (Δ.2.1 (rI x)) (un Δ.1 (Δ.2.1 (rI x))) 1 (Δ.2.2 (rI x))) (i + 1)))) (rfl)
  · skip
    have nok : ¬ (okR x) := bI_n.mp hc1
    refine gIconst (pc := 8) hC (v := (nI 0)) dX2_support_8 (by decide +kernel) ?_
    exact gRetI hC hQ hr (Nat.le_of_ble_eq_true rfl) (Nat.le_of_ble_eq_true rfl) dX2_support_9 (⟨_, rfl, _, rfl, by rw [kk1_1 nok]; exact thr_f nok, Or.inr ⟨kne (kk1_1 nok) ne1, hR⟩⟩)

theorem hz_64 (y : Int32) {i : Nat} (hi : i < 16) : (y.toInt64 * (nI i).toInt64).toInt = y.toInt * i := by
  rw [Int64.toInt_mul, i64_of, i64_of, nI_toInt (by omega)]
  have h1 := y.toInt_lt
  have h2 := y.le_toInt
  have h3 : y.toInt * (i : Int) ≤ 2147483647 * 16 := by
    rcases Int.le_total 0 y.toInt with h | h
    · exact Int.mul_le_mul (by omega) (by omega) (by omega) (by omega)
    · exact Int.le_trans (Int.mul_nonpos_of_nonpos_of_nonneg h (by omega)) (by omega)
  have h4 : -2147483648 * 16 ≤ y.toInt * (i : Int) := by
    rcases Int.le_total 0 y.toInt with h | h
    · exact Int.le_trans (by omega) (Int.mul_nonneg h (by omega))
    · have : (-y.toInt) * (i : Int) ≤ 2147483648 * 16 := Int.mul_le_mul (by omega) (by omega) (by omega) (by omega)
      rw [Int.neg_mul] at this
      omega
  rw [Int.bmod_eq_of_le] <;> omega

abbrev rmX2_weigh : Room := { frames := 2, cells := 0, slots := 0, locals := 46 }
set_option maxRecDepth 100000 in
set_option maxHeartbeats 4000000 in
theorem c_X2_weigh (l : Launch) (D : va_G) (L : mLay) (μ : mSt) (Δ : dSt) (x : Int32) (y : Int32) (hR : mRel μ Δ) : gM l yX2_weigh wsX2_weigh rmX2_weigh D (mTy L) (WM L μ) [.ref (kx L), .int x, .int y] 0 0 (fun r w => mPost L Δ (dRow Δ (rI x) (Δ.2.1 (rI x)) (fun i => (Δ.2.2 (rI x)) i * pz ((un Δ.1 (Δ.2.1 (rI x))) * (y.toInt * i)))) (kk1 (okR x)) (fun b => b = nI ((fun i => (Δ.2.2 (rI x)) i * pz ((un Δ.1 (Δ.2.1 (rI x))) * (y.toInt * i))) 1).val) r w) := by
  refine gM.of (cc := cX2_weigh) (maxL := 5) (ret := (some .int)) (own := RX2) (by decide) rfl rfl (Nat.le_of_ble_eq_true rfl) rfl ?_
  intro p e s m args below meth c A Q hC hr hnm hQ
  have hin2 : ∀ w ∈ u_ws RX2 TX2 6, w ∈ wsX2_weigh := by decide +kernel
  have hl11 : Cond.fieldLink RX2 11 "RootrowsModel" "numbers" "[[I" ∈ wsX2_weigh := by decide +kernel
  have hl14 : Cond.fieldLink RX2 14 "RootrowsModel" "lengths" "[I" ∈ wsX2_weigh := by decide +kernel
  have hl18 : Cond.fieldLink RX2 18 "RootrowsModel" "made" "[I" ∈ wsX2_weigh := by decide +kernel
  refine gAloadN (pc := 0) hC dX2_weigh_0 rfl 0 rfl ?_
  refine gIloadN (pc := 1) hC dX2_weigh_1 rfl 1 rfl ?_
  refine gV (pc := 2) (rest := []) (ci := 2) (q0 := 0) hC (c_X2_lacks l D L μ x) rfl rfl (cwV 1 hC.2.2.2.2.1 gX2_weigh_X2_lacks rfl rfl rfl (by decide +kernel) ⟨Nat.le_of_ble_eq_true rfl, Nat.le_of_ble_eq_true rfl⟩) rfl rfl (Nat.le_of_ble_eq_true rfl) dX2_weigh_2 ⟨Nat.le_of_ble_eq_true rfl, Nat.le_of_ble_eq_true rfl⟩ (fun v w1 hp => ?_)
  obtain ⟨rfl, rfl⟩ := hp
  refine gStk (st' := [.int (bI (¬ (okR x)))]) (pc' := 5) rfl rfl ?_
  refine gIf_eq (pc := 5) hC (tgt := 10) dX2_weigh_5 (by decide) (fun hc1 => ?_) (fun hc1 => ?_)
  · skip
    have ok : okR x := nn (bI_0.mp hc1)
    obtain ⟨ν2, eν2, hRν2, htν2⟩ : ∃ ζ : mSt, ζ = (mTh μ (if okR x then nI 0 else nI 1)) ∧ mRel ζ Δ ∧ mt ζ = nI (kk1 (okR x)) := ⟨_, rfl, hR, (by rw [kk1_0 ok]; exact thr_t ok)⟩
    refine gWs (ws' := WM L ν2) (by first | (rw [eν2]; done) | (rw [eν2]; rfl)) ?_
    obtain ⟨hi, ei⟩ := ok.get
    have hl_ := hRν2.okl hi
    have hle := hRν2.len hi
    have hF := hRν2.is hi
    have hz := hRν2.zer hi
    have hN := hl_.N
    have hL := hN.le
    have hp := hN.pos
    have hx3 : Value.int x = Value.int (nI (rI x)) := congrArg Value.int ei
    refine gLocE (lv' := [(0, .ref (kx L)), (1, .int (nI (rI x))), (2, .int y)]) (by first | (rw [← hx3]; done) | (rw [← hx3]; rfl)) ?_
    refine gAloadN (pc := 10) hC dX2_weigh_10 rfl 0 rfl ?_
    refine mGetArr (pc := 11) hC 1 (a := (kl L)) (by decide) ⟨rfl, rfl, rfl⟩ hin2 hl14 dX2_weigh_11 ?_
    refine gIloadN (pc := 14) hC dX2_weigh_14 rfl 1 rfl ?_
    refine mLenLd (pc := 15) hC (v := (nI (Δ.2.1 (rI x)))) (rI x) (rfl) (hi) (hle) dX2_weigh_15 ?_
    refine gIstoreN (pc := 16) hC (lv' := [(3, .int (nI (Δ.2.1 (rI x)))), (0, .ref (kx L)), (1, .int (nI (rI x))), (2, .int y)]) dX2_weigh_16 rfl (by decide) rfl ?_
    refine gIconst (pc := 17) hC (v := (nI 0)) dX2_weigh_17 (by decide +kernel) ?_
    refine gIstore (pc := 18) hC (lv' := [(4, .int (nI 0)), (3, .int (nI (Δ.2.1 (rI x)))), (0, .ref (kx L)), (1, .int (nI (rI x))), (2, .int y)]) dX2_weigh_18 (by decide) rfl ?_
    refine gLoc (lv' := [(4, .int (nI 0)), (0, .ref (kx L)), (1, .int (nI (rI x))), (2, .int y), (3, .int (nI (Δ.2.1 (rI x))))]) [0, 2, 3, 4, 1] rfl ?_
    refine loopUp (S := mSt) (fun i ζ => gG p l e rmX2_weigh s m args below meth c D A 5 0 0 Q (WM L ζ) 20 [(4, .int (nI i)), (0, .ref (kx L)), (1, .int (nI (rI x))), (2, .int y), (3, .int (nI (Δ.2.1 (rI x))))] []) (fun i ζ => mFill ν2 (fun i => (Δ.2.2 (rI x)) i * pz ((un Δ.1 (Δ.2.1 (rI x))) * (y.toInt * i))) i ζ) (Δ.2.1 (rI x)) ?_ ?_ 0 (ν2) (by omega) (mFill.zero ν2 _)
    · intro ζ hI
      revert hI; generalize ζ = ν1; intro hI
      have hF9 := hI.is hF
      have hle9 := hI.len hle
      refine gIload (pc := 20) hC dX2_weigh_20 0 rfl ?_
      refine gIloadN (pc := 22) hC dX2_weigh_22 rfl 4 rfl ?_
      refine gIcmp_ge (pc := 23) hC (tgt := 62) dX2_weigh_23 (by decide) (fun hc4 => ?_) (fun hc4 => absurd (nI_le (Nat.le_refl _) (by omega)) hc4)
      have h1 := hI
      refine gAloadN (pc := 62) hC dX2_weigh_62 rfl 1 rfl ?_
      refine gIloadN (pc := 63) hC dX2_weigh_63 rfl 2 rfl ?_
      refine gV (pc := 64) (rest := []) (ci := 2) (q0 := 0) hC (c_X2_put l D L ν1 (rI x) (Δ.2.1 (rI x)) (Δ.2.2 (rI x)) (fun i => (Δ.2.2 (rI x)) i * pz ((un Δ.1 (Δ.2.1 (rI x))) * (y.toInt * i))) hi (h1.len hle) (h1.is hF) h1.got (by omega)) rfl rfl (cwV 1 hC.2.2.2.2.1 gX2_weigh_X2_put rfl rfl rfl (by decide +kernel) ⟨Nat.le_of_ble_eq_true rfl, Nat.le_of_ble_eq_true rfl⟩) rfl rfl (Nat.le_of_ble_eq_true rfl) dX2_weigh_64 ⟨Nat.le_of_ble_eq_true rfl, Nat.le_of_ble_eq_true rfl⟩ (fun v w1 hp => ?_)
      obtain ⟨rfl, ν2, rfl, h2⟩ := hp
      refine gStk (st' := [.int (nI (cd (Δ.2.2 (rI x)) (fun i => (Δ.2.2 (rI x)) i * pz ((un Δ.1 (Δ.2.1 (rI x))) * (y.toInt * i))) (Δ.2.1 (rI x))))]) (pc' := 67) rfl rfl ?_
      have h22 : 2 ≤ (Δ.2.1 (rI x)) := by rcases hl_ with h | h | h | h <;> omega
      refine gPop (pc := 67) hC dX2_weigh_67 rfl ?_
      refine gAloadN (pc := 68) hC dX2_weigh_68 rfl 1 rfl ?_
      refine mGetArr (pc := 69) hC 0 (a := (kn L)) (by decide) ⟨rfl, rfl, rfl⟩ hin2 hl11 dX2_weigh_69 ?_
      refine gIloadN (pc := 72) hC dX2_weigh_72 rfl 2 rfl ?_
      refine mRowAld (pc := 73) hC (rI x) (rfl) (hi) dX2_weigh_73 ?_
      refine gIconst (pc := 74) hC (v := (nI 1)) dX2_weigh_74 (by decide +kernel) ?_
      refine mNumLd (pc := 75) hC (K := (rI x)) (v := (nI ((fun i => (Δ.2.2 (rI x)) i * pz ((un Δ.1 (Δ.2.1 (rI x))) * (y.toInt * i))) 1).val)) (by omega) 1 (rfl) (by omega) (h2.is _ (by omega)) dX2_weigh_75 ?_
      exact gRetI hC hQ hr (Nat.le_of_ble_eq_true rfl) (Nat.le_of_ble_eq_true rfl) dX2_weigh_76 (⟨_, rfl, _, rfl, (h2.thr.trans (h1.thr.trans htν2)), Or.inl ⟨(kk1_0 ok), rfl, mFill.relput hRν2 hi h1 h2⟩⟩)
    · intro i ζ hi9 hI ih
      revert hI; generalize ζ = ν1; intro hI
      have hF9 := hI.is hF
      have hle9 := hI.len hle
      refine gIload (pc := 20) hC dX2_weigh_20 0 rfl ?_
      refine gIloadN (pc := 22) hC dX2_weigh_22 rfl 4 rfl ?_
      refine gIcmp_ge (pc := 23) hC (tgt := 62) dX2_weigh_23 (by decide) (fun hc5 => absurd hc5 (nI_ge hi9 (by omega))) (fun hc5 => ?_)
      refine gAloadN (pc := 26) hC dX2_weigh_26 rfl 1 rfl ?_
      refine mGetArr (pc := 27) hC 2 (a := (km L)) (by decide) ⟨rfl, rfl, rfl⟩ hin2 hl18 dX2_weigh_27 ?_
      refine gIload (pc := 30) hC dX2_weigh_30 0 rfl ?_
      refine gAloadN (pc := 32) hC dX2_weigh_32 rfl 1 rfl ?_
      refine mGetArr (pc := 33) hC 0 (a := (kn L)) (by decide) ⟨rfl, rfl, rfl⟩ hin2 hl11 dX2_weigh_33 ?_
      refine gIloadN (pc := 36) hC dX2_weigh_36 rfl 2 rfl ?_
      refine mRowAld (pc := 37) hC (rI x) (rfl) (hi) dX2_weigh_37 ?_
      refine gIload (pc := 38) hC dX2_weigh_38 0 rfl ?_
      refine mNumLd (pc := 40) hC (K := (rI x)) (v := (nI ((Δ.2.2 (rI x)) i).val)) (by omega) i (rfl) (by omega) (hF9 _ (by omega)) dX2_weigh_40 ?_
      refine gAloadN (pc := 41) hC dX2_weigh_41 rfl 1 rfl ?_
      refine gIloadN (pc := 42) hC dX2_weigh_42 rfl 4 rfl ?_
      refine gIloadN (pc := 43) hC dX2_weigh_43 rfl 3 rfl ?_
      refine gI2l (pc := 44) hC dX2_weigh_44 rfl ?_
      refine gIload (pc := 45) hC dX2_weigh_45 0 rfl ?_
      refine gI2l (pc := 47) hC dX2_weigh_47 rfl ?_
      refine gLmul (pc := 48) hC dX2_weigh_48 rfl ?_
      refine gV (pc := 49) (rest := [.int (nI ((Δ.2.2 (rI x)) i).val), .int (nI i), .ref (km L)]) (ci := 2) (q0 := 0) hC (c_X2_exponent l D L ν1 (Δ.2.1 (rI x)) Δ.1 _ (y.toInt * i) hN (hI.odd.trans hRν2.1) hRν2.2.1.2 (hz_64 y (by omega))) rfl rfl (cwV 2 hC.2.2.2.2.1 gX2_weigh_X2_exponent rfl rfl rfl (by decide +kernel) ⟨Nat.le_of_ble_eq_true rfl, Nat.le_of_ble_eq_true rfl⟩) rfl rfl (Nat.le_of_ble_eq_true rfl) dX2_weigh_49 ⟨Nat.le_of_ble_eq_true rfl, Nat.le_of_ble_eq_true rfl⟩ (fun v w1 hp => ?_)
      obtain ⟨rfl, rfl⟩ := hp
      refine gStk (st' := [.int (nI (xp Δ.1 (Δ.2.1 (rI x)) (y.toInt * i))), .int (nI ((Δ.2.2 (rI x)) i).val), .int (nI i), .ref (km L)]) (pc' := 52) rfl rfl ?_
      refine gS (pc := 52) (rest := [.int (nI i), .ref (km L)]) hC (c_X2_doubled l D _ _ _ ((Δ.2.2 (rI x)) i) _ rfl (xp_lt _ _ _)) (va_cwS 2 hC.2.2.2.2.1 gX2_weigh_X2_doubled rfl rfl rfl (by decide +kernel) ⟨Nat.le_of_ble_eq_true rfl, Nat.le_of_ble_eq_true rfl⟩) rfl rfl (Nat.le_of_ble_eq_true rfl) dX2_weigh_52 ⟨Nat.le_of_ble_eq_true rfl, Nat.le_of_ble_eq_true rfl⟩ (fun v w1 hp => ?_)
      obtain ⟨rfl, rfl⟩ := hp
      refine gStk (st' := [.int (nI ((Δ.2.2 (rI x)) i * pw (xp Δ.1 (Δ.2.1 (rI x)) (y.toInt * i))).val), .int (nI i), .ref (km L)]) (pc' := 55) rfl rfl ?_
      obtain ⟨ν6, eν6⟩ : ∃ ζ : mSt, ζ = mMa ν1 (upd (mm ν1) i (nI ((Δ.2.2 (rI x)) i * pw (xp Δ.1 (Δ.2.1 (rI x)) (y.toInt * i))).val)) := ⟨_, rfl⟩
      refine mMadSt (pc := 55) hC i (rfl) (by omega) eν6 dX2_weigh_55 ?_
      refine gIinc (pc := 56) hC (v := (nI (i + 1))) (lv' := [(4, .int (nI (i + 1))), (0, .ref (kx L)), (1, .int (nI (rI x))), (2, .int y), (3, .int (nI (Δ.2.1 (rI x))))]) dX2_weigh_56 (q := 0) rfl (nI_1 _) (by decide) rfl ?_
      refine gGoto (pc := 59) hC (tgt := 20) dX2_weigh_59 (by decide) ?_
      refine gLoc (lv' := [(4, .int (nI (i + 1))), (0, .ref (kx L)), (1, .int (nI (rI x))), (2, .int y), (3, .int (nI (Δ.2.1 (rI x))))]) [0, 1, 2, 3, 4] rfl ?_
      exact ih (ν6) (hI.step eν6 (by rw [xp_pw hN]))
  · skip
    have nok : ¬ (okR x) := bI_n.mp hc1
    refine gIconst (pc := 8) hC (v := (nI 0)) dX2_weigh_8 (by decide +kernel) ?_
    exact gRetI hC hQ hr (Nat.le_of_ble_eq_true rfl) (Nat.le_of_ble_eq_true rfl) dX2_weigh_9 (⟨_, rfl, _, rfl, by rw [kk1_1 nok]; exact thr_f nok, Or.inr ⟨kne (kk1_1 nok) ne1, hR⟩⟩)

abbrev rmX2_turnRound : Room := { frames := 2, cells := 0, slots := 0, locals := 46 }
set_option maxRecDepth 100000 in
set_option maxHeartbeats 4000000 in
theorem c_X2_turnRound (l : Launch) (D : va_G) (L : mLay) (μ : mSt) (Δ : dSt) (x : Int32) (hR : mRel μ Δ) : gM l yX2_turnRound wsX2_turnRound rmX2_turnRound D (mTy L) (WM L μ) [.ref (kx L), .int x] 0 0 (fun r w => mPost L Δ (dRow Δ (rI x) (Δ.2.1 (rI x)) (fun i => (Δ.2.2 (rI x)) (ix (Δ.2.1 (rI x)) (-(i : Int))))) (kk1 (okR x)) (fun b => b = if 0 < cd (Δ.2.2 (rI x)) (fun i => (Δ.2.2 (rI x)) (ix (Δ.2.1 (rI x)) (-(i : Int)))) (Δ.2.1 (rI x)) then nI 1 else nI 0) r w) := by
  refine gM.of (cc := cX2_turnRound) (maxL := 2) (ret := (some .boolean)) (own := RX2) (by decide) rfl rfl (Nat.le_of_ble_eq_true rfl) rfl ?_
  intro p e s m args below meth c A Q hC hr hnm hQ
  refine gAloadN (pc := 0) hC dX2_turnRound_0 rfl 0 rfl ?_
  refine gIloadN (pc := 1) hC dX2_turnRound_1 rfl 1 rfl ?_
  refine gV (pc := 2) (rest := []) (ci := 2) (q0 := 0) hC (c_X2_lacks l D L μ x) rfl rfl (cwV 1 hC.2.2.2.2.1 gX2_turnRound_X2_lacks rfl rfl rfl (by decide +kernel) ⟨Nat.le_of_ble_eq_true rfl, Nat.le_of_ble_eq_true rfl⟩) rfl rfl (Nat.le_of_ble_eq_true rfl) dX2_turnRound_2 ⟨Nat.le_of_ble_eq_true rfl, Nat.le_of_ble_eq_true rfl⟩ (fun v w1 hp => ?_)
  obtain ⟨rfl, rfl⟩ := hp
  refine gStk (st' := [.int (bI (¬ (okR x)))]) (pc' := 5) rfl rfl ?_
  refine gIf_eq (pc := 5) hC (tgt := 10) dX2_turnRound_5 (by decide) (fun hc1 => ?_) (fun hc1 => ?_)
  · skip
    have ok : okR x := nn (bI_0.mp hc1)
    obtain ⟨ν2, eν2, hRν2, htν2⟩ : ∃ ζ : mSt, ζ = (mTh μ (if okR x then nI 0 else nI 1)) ∧ mRel ζ Δ ∧ mt ζ = nI (kk1 (okR x)) := ⟨_, rfl, hR, (by rw [kk1_0 ok]; exact thr_t ok)⟩
    refine gWs (ws' := WM L ν2) (by first | (rw [eν2]; done) | (rw [eν2]; rfl)) ?_
    obtain ⟨hi, ei⟩ := ok.get
    have hl_ := hRν2.okl hi
    have hle := hRν2.len hi
    have hF := hRν2.is hi
    have hz := hRν2.zer hi
    have hN := hl_.N
    have hL := hN.le
    have hp := hN.pos
    have hx3 : Value.int x = Value.int (nI (rI x)) := congrArg Value.int ei
    refine gLocE (lv' := [(0, .ref (kx L)), (1, .int (nI (rI x)))]) (by first | (rw [← hx3]; done) | (rw [← hx3]; rfl)) ?_
    refine gAloadN (pc := 10) hC dX2_turnRound_10 rfl 0 rfl ?_
    refine gIloadN (pc := 11) hC dX2_turnRound_11 rfl 1 rfl ?_
    refine gV (pc := 12) (rest := []) (ci := 2) (q0 := 0) hC (c_X2_turned l D L ν2 (rI x) (Δ.2.1 (rI x)) (Δ.2.2 (rI x)) hi hle hF hN) rfl rfl (cwV 1 hC.2.2.2.2.1 gX2_turnRound_X2_turned rfl rfl rfl (by decide +kernel) ⟨Nat.le_of_ble_eq_true rfl, Nat.le_of_ble_eq_true rfl⟩) rfl rfl (Nat.le_of_ble_eq_true rfl) dX2_turnRound_12 ⟨Nat.le_of_ble_eq_true rfl, Nat.le_of_ble_eq_true rfl⟩ (fun v w1 hp => ?_)
    obtain ⟨rfl, ν1, rfl, h1⟩ := hp
    refine gStk (st' := []) (pc' := 15) rfl rfl ?_
    refine gAloadN (pc := 15) hC dX2_turnRound_15 rfl 0 rfl ?_
    refine gIloadN (pc := 16) hC dX2_turnRound_16 rfl 1 rfl ?_
    refine gV (pc := 17) (rest := []) (ci := 2) (q0 := 0) hC (c_X2_put l D L ν1 (rI x) (Δ.2.1 (rI x)) (Δ.2.2 (rI x)) (fun i => (Δ.2.2 (rI x)) (ix (Δ.2.1 (rI x)) (-(i : Int)))) hi (h1.len hle) (h1.is hF) h1.got (by omega)) rfl rfl (cwV 1 hC.2.2.2.2.1 gX2_turnRound_X2_put rfl rfl rfl (by decide +kernel) ⟨Nat.le_of_ble_eq_true rfl, Nat.le_of_ble_eq_true rfl⟩) rfl rfl (Nat.le_of_ble_eq_true rfl) dX2_turnRound_17 ⟨Nat.le_of_ble_eq_true rfl, Nat.le_of_ble_eq_true rfl⟩ (fun v w1 hp => ?_)
    obtain ⟨rfl, ν2, rfl, h2⟩ := hp
    refine gStk (st' := [.int (nI (cd (Δ.2.2 (rI x)) (fun i => (Δ.2.2 (rI x)) (ix (Δ.2.1 (rI x)) (-(i : Int)))) (Δ.2.1 (rI x))))]) (pc' := 20) rfl rfl ?_
    have hcd := cd_le (Δ.2.2 (rI x)) (fun i => (Δ.2.2 (rI x)) (ix (Δ.2.1 (rI x)) (-(i : Int)))) (Δ.2.1 (rI x))
    refine gIf_le (pc := 20) hC (tgt := 27) dX2_turnRound_20 (by decide) (fun hc4 => ?_) (fun hc4 => ?_)
    · skip
      refine gIconst (pc := 27) hC (v := (nI 0)) dX2_turnRound_27 (by decide +kernel) ?_
      exact gRetZ hC hQ hr (rfl) (Nat.le_of_ble_eq_true rfl) (Nat.le_of_ble_eq_true rfl) dX2_turnRound_28 (⟨_, rfl, _, rfl, (h2.thr.trans (h1.thr.trans htν2)), Or.inl ⟨(kk1_0 ok), by rw [if_neg (fun q => absurd hc4 (nI_nle q (by omega)))], mFill.relput hRν2 hi h1 h2⟩⟩)
    · skip
      refine gIconst (pc := 23) hC (v := (nI 1)) dX2_turnRound_23 (by decide +kernel) ?_
      refine gGoto (pc := 24) hC (tgt := 28) dX2_turnRound_24 (by decide) ?_
      exact gRetZ hC hQ hr (rfl) (Nat.le_of_ble_eq_true rfl) (Nat.le_of_ble_eq_true rfl) dX2_turnRound_28 (⟨_, rfl, _, rfl, (h2.thr.trans (h1.thr.trans htν2)), Or.inl ⟨(kk1_0 ok), by rw [if_pos (by rcases Nat.eq_zero_or_pos (cd (Δ.2.2 (rI x)) (fun i => (Δ.2.2 (rI x)) (ix (Δ.2.1 (rI x)) (-(i : Int)))) (Δ.2.1 (rI x))) with q | q; (rw [q] at hc4; exact absurd (Int32.le_refl _) hc4); exact q)], mFill.relput hRν2 hi h1 h2⟩⟩)
  · skip
    have nok : ¬ (okR x) := bI_n.mp hc1
    refine gIconst (pc := 8) hC (v := (nI 0)) dX2_turnRound_8 (by decide +kernel) ?_
    exact gRetZ hC hQ hr (by first | rfl | exact bI_ret) (Nat.le_of_ble_eq_true rfl) (Nat.le_of_ble_eq_true rfl) dX2_turnRound_9 (⟨_, rfl, _, rfl, by rw [kk1_1 nok]; exact thr_f nok, Or.inr ⟨kne (kk1_1 nok) ne1, hR⟩⟩)

abbrev rmX2_multiply : Room := { frames := 2, cells := 0, slots := 0, locals := 44 }
set_option maxRecDepth 100000 in
set_option maxHeartbeats 4000000 in
theorem c_X2_multiply (l : Launch) (D : va_G) (L : mLay) (μ : mSt) (Δ : dSt) (x : Int32) (y : Int32) (hR : mRel μ Δ) : gM l yX2_multiply wsX2_multiply rmX2_multiply D (mTy L) (WM L μ) [.ref (kx L), .int x, .int y] 0 0 (fun r w => mPost L Δ (dRow Δ (rI x) (Δ.2.1 (rI x)) (fun i => (Δ.2.2 (rI x)) i * nu y)) (kk2 (okR x) (okNum y)) (fun b => b = nI (cz (fun i => (Δ.2.2 (rI x)) i * nu y) (Δ.2.1 (rI x)))) r w) := by
  refine gM.of (cc := cX2_multiply) (maxL := 4) (ret := (some .int)) (own := RX2) (by decide) rfl rfl (Nat.le_of_ble_eq_true rfl) rfl ?_
  intro p e s m args below meth c A Q hC hr hnm hQ
  have hin2 : ∀ w ∈ u_ws RX2 TX2 6, w ∈ wsX2_multiply := by decide +kernel
  have hl11 : Cond.fieldLink RX2 11 "RootrowsModel" "numbers" "[[I" ∈ wsX2_multiply := by decide +kernel
  have hl14 : Cond.fieldLink RX2 14 "RootrowsModel" "lengths" "[I" ∈ wsX2_multiply := by decide +kernel
  have hl18 : Cond.fieldLink RX2 18 "RootrowsModel" "made" "[I" ∈ wsX2_multiply := by decide +kernel
  refine gAloadN (pc := 0) hC dX2_multiply_0 rfl 0 rfl ?_
  refine gIloadN (pc := 1) hC dX2_multiply_1 rfl 1 rfl ?_
  refine gV (pc := 2) (rest := []) (ci := 2) (q0 := 0) hC (c_X2_lacks l D L μ x) rfl rfl (cwV 1 hC.2.2.2.2.1 gX2_multiply_X2_lacks rfl rfl rfl (by decide +kernel) ⟨Nat.le_of_ble_eq_true rfl, Nat.le_of_ble_eq_true rfl⟩) rfl rfl (Nat.le_of_ble_eq_true rfl) dX2_multiply_2 ⟨Nat.le_of_ble_eq_true rfl, Nat.le_of_ble_eq_true rfl⟩ (fun v w1 hp => ?_)
  obtain ⟨rfl, rfl⟩ := hp
  refine gStk (st' := [.int (bI (¬ (okR x)))]) (pc' := 5) rfl rfl ?_
  refine gIf_ne (pc := 5) hC (tgt := 23) dX2_multiply_5 (by decide) (fun hc1 => ?_) (fun hc1 => ?_)
  · skip
    have nok : ¬ (okR x) := bI_n.mp hc1
    refine gIconst (pc := 23) hC (v := (nI 0)) dX2_multiply_23 (by decide +kernel) ?_
    exact gRetI hC hQ hr (Nat.le_of_ble_eq_true rfl) (Nat.le_of_ble_eq_true rfl) dX2_multiply_24 (⟨_, rfl, _, rfl, by rw [kk2_1 nok]; exact thr_f nok, Or.inr ⟨kne (kk2_1 nok) ne1, hR⟩⟩)
  · skip
    have ok : okR x := nn (bI_0.mp hc1)
    refine gAloadN (pc := 8) hC dX2_multiply_8 rfl 0 rfl ?_
    refine gIloadN (pc := 9) hC dX2_multiply_9 rfl 2 rfl ?_
    refine gIconst (pc := 10) hC (v := (nI 0)) dX2_multiply_10 (by decide +kernel) ?_
    refine gLdc (pc := 11) hC (v := 65536) dX2_multiply_11 (by decide +kernel) ?_
    refine gS (pc := 13) (rest := [.ref (kx L)]) hC (c_X2_in l D _ _ y (nI 0) (nI 65536)) (va_cwS 3 hC.2.2.2.2.1 gX2_multiply_X2_in rfl rfl rfl (by decide +kernel) ⟨Nat.le_of_ble_eq_true rfl, Nat.le_of_ble_eq_true rfl⟩) rfl rfl (Nat.le_of_ble_eq_true rfl) dX2_multiply_13 ⟨Nat.le_of_ble_eq_true rfl, Nat.le_of_ble_eq_true rfl⟩ (fun v w1 hp => ?_)
    obtain ⟨rfl, rfl⟩ := hp
    rw [bI_c m_num]
    refine gStk (st' := [.int (bI (okNum y)), .ref (kx L)]) (pc' := 16) rfl rfl ?_
    refine gIconst (pc := 16) hC (v := (nI 2)) dX2_multiply_16 (by decide +kernel) ?_
    refine gV (pc := 17) (rest := []) (ci := 2) (q0 := 0) hC (c_X2_no l D L (mTh μ (if okR x then nI 0 else nI 1)) (okNum y) (nI 2)) rfl rfl (cwV 2 hC.2.2.2.2.1 gX2_multiply_X2_no rfl rfl rfl (by decide +kernel) ⟨Nat.le_of_ble_eq_true rfl, Nat.le_of_ble_eq_true rfl⟩) rfl rfl (Nat.le_of_ble_eq_true rfl) dX2_multiply_17 ⟨Nat.le_of_ble_eq_true rfl, Nat.le_of_ble_eq_true rfl⟩ (fun v w1 hp => ?_)
    obtain ⟨rfl, rfl⟩ := hp
    refine gStk (st' := [.int (bI (¬ (okNum y)))]) (pc' := 20) rfl rfl ?_
    refine gIf_eq (pc := 20) hC (tgt := 25) dX2_multiply_20 (by decide) (fun hc2 => ?_) (fun hc2 => ?_)
    · skip
      have ok2 : okNum y := nn (bI_0.mp hc2)
      obtain ⟨ν3, eν3, hRν3, htν3⟩ : ∃ ζ : mSt, ζ = (mTh μ (if okNum y then nI 0 else nI 2)) ∧ mRel ζ Δ ∧ mt ζ = nI (kk2 (okR x) (okNum y)) := ⟨_, rfl, hR, (by rw [kk2_0 ok ok2]; exact thr_t ok2)⟩
      refine gWs (ws' := WM L ν3) (by first | (rw [eν3]; done) | (rw [eν3]; rfl)) ?_
      obtain ⟨hi, ei⟩ := ok.get
      have hl_ := hRν3.okl hi
      have hle := hRν3.len hi
      have hF := hRν3.is hi
      have hz := hRν3.zer hi
      have hN := hl_.N
      have hL := hN.le
      have hp := hN.pos
      have hx4 : Value.int x = Value.int (nI (rI x)) := congrArg Value.int ei
      refine gLocE (lv' := [(0, .ref (kx L)), (1, .int (nI (rI x))), (2, .int y)]) (by first | (rw [← hx4]; done) | (rw [← hx4]; rfl)) ?_
      have en := nu_val ok2
      refine gIconst (pc := 25) hC (v := (nI 0)) dX2_multiply_25 (by decide +kernel) ?_
      refine gIstoreN (pc := 26) hC (lv' := [(3, .int (nI 0)), (0, .ref (kx L)), (1, .int (nI (rI x))), (2, .int y)]) dX2_multiply_26 rfl (by decide) rfl ?_
      refine gLoc (lv' := [(3, .int (nI 0)), (0, .ref (kx L)), (1, .int (nI (rI x))), (2, .int y)]) [0, 1, 2, 3] rfl ?_
      refine loopUp (S := mSt) (fun i ζ => gG p l e rmX2_multiply s m args below meth c D A 4 0 0 Q (WM L ζ) 27 [(3, .int (nI i)), (0, .ref (kx L)), (1, .int (nI (rI x))), (2, .int y)] []) (fun i ζ => mFill ν3 (fun i => (Δ.2.2 (rI x)) i * nu y) i ζ) (Δ.2.1 (rI x)) ?_ ?_ 0 (ν3) (by omega) (mFill.zero ν3 _)
      · intro ζ hI
        revert hI; generalize ζ = ν1; intro hI
        have hF9 := hI.is hF
        have hle9 := hI.len hle
        refine gIloadN (pc := 27) hC dX2_multiply_27 rfl 0 rfl ?_
        refine gAloadN (pc := 28) hC dX2_multiply_28 rfl 1 rfl ?_
        refine mGetArr (pc := 29) hC 1 (a := (kl L)) (by decide) ⟨rfl, rfl, rfl⟩ hin2 hl14 dX2_multiply_29 ?_
        refine gIloadN (pc := 32) hC dX2_multiply_32 rfl 2 rfl ?_
        refine mLenLd (pc := 33) hC (v := (nI (Δ.2.1 (rI x)))) (rI x) (rfl) (hi) (hle9) dX2_multiply_33 ?_
        refine gIcmp_ge (pc := 34) hC (tgt := 64) dX2_multiply_34 (by decide) (fun hc5 => ?_) (fun hc5 => absurd (nI_le (Nat.le_refl _) (by omega)) hc5)
        have h1 := hI
        refine gAloadN (pc := 64) hC dX2_multiply_64 rfl 1 rfl ?_
        refine gIloadN (pc := 65) hC dX2_multiply_65 rfl 2 rfl ?_
        refine gV (pc := 66) (rest := []) (ci := 2) (q0 := 0) hC (c_X2_putZeros l D L ν1 (rI x) (Δ.2.1 (rI x)) (Δ.2.2 (rI x)) (fun i => (Δ.2.2 (rI x)) i * nu y) hi (h1.len hle) (h1.is hF) h1.got (by omega)) rfl rfl (cwV 1 hC.2.2.2.2.1 gX2_multiply_X2_putZeros rfl rfl rfl (by decide +kernel) ⟨Nat.le_of_ble_eq_true rfl, Nat.le_of_ble_eq_true rfl⟩) rfl rfl (Nat.le_of_ble_eq_true rfl) dX2_multiply_66 ⟨Nat.le_of_ble_eq_true rfl, Nat.le_of_ble_eq_true rfl⟩ (fun v w1 hp => ?_)
        obtain ⟨rfl, ν2, rfl, h2⟩ := hp
        refine gStk (st' := [.int (nI (cz (fun i => (Δ.2.2 (rI x)) i * nu y) (Δ.2.1 (rI x))))]) (pc' := 69) rfl rfl ?_
        exact gRetI hC hQ hr (Nat.le_of_ble_eq_true rfl) (Nat.le_of_ble_eq_true rfl) dX2_multiply_69 (⟨_, rfl, _, rfl, (h2.thr.trans (h1.thr.trans htν3)), Or.inl ⟨(kk2_0 ok ok2), rfl, mFill.relput hRν3 hi h1 h2⟩⟩)
      · intro i ζ hi9 hI ih
        revert hI; generalize ζ = ν1; intro hI
        have hF9 := hI.is hF
        have hle9 := hI.len hle
        refine gIloadN (pc := 27) hC dX2_multiply_27 rfl 0 rfl ?_
        refine gAloadN (pc := 28) hC dX2_multiply_28 rfl 1 rfl ?_
        refine mGetArr (pc := 29) hC 1 (a := (kl L)) (by decide) ⟨rfl, rfl, rfl⟩ hin2 hl14 dX2_multiply_29 ?_
        refine gIloadN (pc := 32) hC dX2_multiply_32 rfl 2 rfl ?_
        refine mLenLd (pc := 33) hC (v := (nI (Δ.2.1 (rI x)))) (rI x) (rfl) (hi) (hle9) dX2_multiply_33 ?_
        refine gIcmp_ge (pc := 34) hC (tgt := 64) dX2_multiply_34 (by decide) (fun hc6 => absurd hc6 (nI_ge hi9 (by omega))) (fun hc6 => ?_)
        refine gAloadN (pc := 37) hC dX2_multiply_37 rfl 1 rfl ?_
        refine mGetArr (pc := 38) hC 2 (a := (km L)) (by decide) ⟨rfl, rfl, rfl⟩ hin2 hl18 dX2_multiply_38 ?_
        refine gIloadN (pc := 41) hC dX2_multiply_41 rfl 0 rfl ?_
        refine gAloadN (pc := 42) hC dX2_multiply_42 rfl 1 rfl ?_
        refine mGetArr (pc := 43) hC 0 (a := (kn L)) (by decide) ⟨rfl, rfl, rfl⟩ hin2 hl11 dX2_multiply_43 ?_
        refine gIloadN (pc := 46) hC dX2_multiply_46 rfl 2 rfl ?_
        refine mRowAld (pc := 47) hC (rI x) (rfl) (hi) dX2_multiply_47 ?_
        refine gIloadN (pc := 48) hC dX2_multiply_48 rfl 0 rfl ?_
        refine mNumLd (pc := 49) hC (K := (rI x)) (v := (nI ((Δ.2.2 (rI x)) i).val)) (by omega) i (rfl) (by omega) (hF9 _ (by omega)) dX2_multiply_49 ?_
        refine gI2l (pc := 50) hC (v := (lN ((Δ.2.2 (rI x)) i).val)) dX2_multiply_50 (nI_l (by have := ((Δ.2.2 (rI x)) i).isLt; omega)) ?_
        refine gIloadN (pc := 51) hC dX2_multiply_51 rfl 3 rfl ?_
        refine gI2l (pc := 52) hC (v := (lN (nu y).val)) dX2_multiply_52 ((congrArg Int32.toInt64 en).trans (nI_l (by have := (nu y).isLt; omega))) ?_
        refine gIconst (pc := 53) hC (v := (nI 0)) dX2_multiply_53 (by decide +kernel) ?_
        refine gS (pc := 54) (rest := [.int (nI i), .ref (km L)]) hC (c_X2_product l D _ _ _ _ _ ((Δ.2.2 (rI x)) i) (nu y) 0 rfl rfl rfl) (va_cwS 3 hC.2.2.2.2.1 gX2_multiply_X2_product rfl rfl rfl (by decide +kernel) ⟨Nat.le_of_ble_eq_true rfl, Nat.le_of_ble_eq_true rfl⟩) rfl rfl (Nat.le_of_ble_eq_true rfl) dX2_multiply_54 ⟨Nat.le_of_ble_eq_true rfl, Nat.le_of_ble_eq_true rfl⟩ (fun v w1 hp => ?_)
        obtain ⟨rfl, rfl⟩ := hp
        refine gStk (st' := [.int (nI ((Δ.2.2 (rI x)) i * nu y + 0).val), .int (nI i), .ref (km L)]) (pc' := 57) rfl rfl ?_
        obtain ⟨ν7, eν7⟩ : ∃ ζ : mSt, ζ = mMa ν1 (upd (mm ν1) i (nI ((Δ.2.2 (rI x)) i * nu y + 0).val)) := ⟨_, rfl⟩
        refine mMadSt (pc := 57) hC i (rfl) (by omega) eν7 dX2_multiply_57 ?_
        refine gIinc (pc := 58) hC (v := (nI (i + 1))) (lv' := [(3, .int (nI (i + 1))), (0, .ref (kx L)), (1, .int (nI (rI x))), (2, .int y)]) dX2_multiply_58 (q := 0) rfl (nI_1 _) (by decide) rfl ?_
        refine gGoto (pc := 61) hC (tgt := 27) dX2_multiply_61 (by decide) ?_
        refine gLoc (lv' := [(3, .int (nI (i + 1))), (0, .ref (kx L)), (1, .int (nI (rI x))), (2, .int y)]) [0, 1, 2, 3] rfl ?_
        exact ih (ν7) (hI.step eν7 (by rw [fr_a0]))
    · skip
      have nok2 : ¬ (okNum y) := bI_n.mp hc2
      refine gIconst (pc := 23) hC (v := (nI 0)) dX2_multiply_23 (by decide +kernel) ?_
      exact gRetI hC hQ hr (Nat.le_of_ble_eq_true rfl) (Nat.le_of_ble_eq_true rfl) dX2_multiply_24 (⟨_, rfl, _, rfl, by rw [kk2_2 ok nok2]; exact thr_f nok2, Or.inr ⟨kne (kk2_2 ok nok2) ne2, hR⟩⟩)

abbrev rmX2_isBack : Room := { frames := 2, cells := 0, slots := 0, locals := 43 }
set_option maxRecDepth 100000 in
set_option maxHeartbeats 4000000 in
theorem c_X2_isBack (l : Launch) (D : va_G) (L : mLay) (μ : mSt) (Δ : dSt) (x : Int32) (hR : mRel μ Δ) : gM l yX2_isBack wsX2_isBack rmX2_isBack D (mTy L) (WM L μ) [.ref (kx L), .int x] 0 0 (fun r w => mPost L Δ Δ (kk1 (okR x)) (fun b => b = nI 1) r w) := by
  refine gM.of (cc := cX2_isBack) (maxL := 2) (ret := (some .boolean)) (own := RX2) (by decide) rfl rfl (Nat.le_of_ble_eq_true rfl) rfl ?_
  intro p e s m args below meth c A Q hC hr hnm hQ
  refine gAloadN (pc := 0) hC dX2_isBack_0 rfl 0 rfl ?_
  refine gIloadN (pc := 1) hC dX2_isBack_1 rfl 1 rfl ?_
  refine gV (pc := 2) (rest := []) (ci := 2) (q0 := 0) hC (c_X2_lacks l D L μ x) rfl rfl (cwV 1 hC.2.2.2.2.1 gX2_isBack_X2_lacks rfl rfl rfl (by decide +kernel) ⟨Nat.le_of_ble_eq_true rfl, Nat.le_of_ble_eq_true rfl⟩) rfl rfl (Nat.le_of_ble_eq_true rfl) dX2_isBack_2 ⟨Nat.le_of_ble_eq_true rfl, Nat.le_of_ble_eq_true rfl⟩ (fun v w1 hp => ?_)
  obtain ⟨rfl, rfl⟩ := hp
  refine gStk (st' := [.int (bI (¬ (okR x)))]) (pc' := 5) rfl rfl ?_
  refine gIf_ne (pc := 5) hC (tgt := 12) dX2_isBack_5 (by decide) (fun hc1 => ?_) (fun hc1 => ?_)
  · skip
    have nok : ¬ (okR x) := bI_n.mp hc1
    refine gIconst (pc := 12) hC (v := (nI 0)) dX2_isBack_12 (by decide +kernel) ?_
    exact gRetZ hC hQ hr (by first | rfl | exact bI_ret) (Nat.le_of_ble_eq_true rfl) (Nat.le_of_ble_eq_true rfl) dX2_isBack_13 (⟨_, rfl, _, rfl, by rw [kk1_1 nok]; exact thr_f nok, Or.inr ⟨kne (kk1_1 nok) ne1, hR⟩⟩)
  · skip
    have ok : okR x := nn (bI_0.mp hc1)
    obtain ⟨ν2, eν2, hRν2, htν2⟩ : ∃ ζ : mSt, ζ = (mTh μ (if okR x then nI 0 else nI 1)) ∧ mRel ζ Δ ∧ mt ζ = nI (kk1 (okR x)) := ⟨_, rfl, hR, (by rw [kk1_0 ok]; exact thr_t ok)⟩
    refine gWs (ws' := WM L ν2) (by first | (rw [eν2]; done) | (rw [eν2]; rfl)) ?_
    refine gIconst (pc := 8) hC (v := (nI 1)) dX2_isBack_8 (by decide +kernel) ?_
    refine gGoto (pc := 9) hC (tgt := 13) dX2_isBack_9 (by decide) ?_
    exact gRetZ hC hQ hr (rfl) (Nat.le_of_ble_eq_true rfl) (Nat.le_of_ble_eq_true rfl) dX2_isBack_13 (⟨_, rfl, _, rfl, htν2, Or.inl ⟨(kk1_0 ok), rfl, hRν2⟩⟩)

abbrev rmX2_isOwn : Room := { frames := 2, cells := 0, slots := 0, locals := 43 }
set_option maxRecDepth 100000 in
set_option maxHeartbeats 4000000 in
theorem c_X2_isOwn (l : Launch) (D : va_G) (L : mLay) (μ : mSt) (Δ : dSt) (x : Int32) (hR : mRel μ Δ) : gM l yX2_isOwn wsX2_isOwn rmX2_isOwn D (mTy L) (WM L μ) [.ref (kx L), .int x] 0 0 (fun r w => mPost L Δ Δ (kk1 (okR x)) (fun b => b = nI 1) r w) := by
  refine gM.of (cc := cX2_isOwn) (maxL := 2) (ret := (some .boolean)) (own := RX2) (by decide) rfl rfl (Nat.le_of_ble_eq_true rfl) rfl ?_
  intro p e s m args below meth c A Q hC hr hnm hQ
  refine gAloadN (pc := 0) hC dX2_isOwn_0 rfl 0 rfl ?_
  refine gIloadN (pc := 1) hC dX2_isOwn_1 rfl 1 rfl ?_
  refine gV (pc := 2) (rest := []) (ci := 2) (q0 := 0) hC (c_X2_lacks l D L μ x) rfl rfl (cwV 1 hC.2.2.2.2.1 gX2_isOwn_X2_lacks rfl rfl rfl (by decide +kernel) ⟨Nat.le_of_ble_eq_true rfl, Nat.le_of_ble_eq_true rfl⟩) rfl rfl (Nat.le_of_ble_eq_true rfl) dX2_isOwn_2 ⟨Nat.le_of_ble_eq_true rfl, Nat.le_of_ble_eq_true rfl⟩ (fun v w1 hp => ?_)
  obtain ⟨rfl, rfl⟩ := hp
  refine gStk (st' := [.int (bI (¬ (okR x)))]) (pc' := 5) rfl rfl ?_
  refine gIf_ne (pc := 5) hC (tgt := 12) dX2_isOwn_5 (by decide) (fun hc1 => ?_) (fun hc1 => ?_)
  · skip
    have nok : ¬ (okR x) := bI_n.mp hc1
    refine gIconst (pc := 12) hC (v := (nI 0)) dX2_isOwn_12 (by decide +kernel) ?_
    exact gRetZ hC hQ hr (by first | rfl | exact bI_ret) (Nat.le_of_ble_eq_true rfl) (Nat.le_of_ble_eq_true rfl) dX2_isOwn_13 (⟨_, rfl, _, rfl, by rw [kk1_1 nok]; exact thr_f nok, Or.inr ⟨kne (kk1_1 nok) ne1, hR⟩⟩)
  · skip
    have ok : okR x := nn (bI_0.mp hc1)
    obtain ⟨ν2, eν2, hRν2, htν2⟩ : ∃ ζ : mSt, ζ = (mTh μ (if okR x then nI 0 else nI 1)) ∧ mRel ζ Δ ∧ mt ζ = nI (kk1 (okR x)) := ⟨_, rfl, hR, (by rw [kk1_0 ok]; exact thr_t ok)⟩
    refine gWs (ws' := WM L ν2) (by first | (rw [eν2]; done) | (rw [eν2]; rfl)) ?_
    refine gIconst (pc := 8) hC (v := (nI 1)) dX2_isOwn_8 (by decide +kernel) ?_
    refine gGoto (pc := 9) hC (tgt := 13) dX2_isOwn_9 (by decide) ?_
    exact gRetZ hC hQ hr (rfl) (Nat.le_of_ble_eq_true rfl) (Nat.le_of_ble_eq_true rfl) dX2_isOwn_13 (⟨_, rfl, _, rfl, htν2, Or.inl ⟨(kk1_0 ok), rfl, hRν2⟩⟩)

abbrev rmX2_isInverse : Room := { frames := 2, cells := 0, slots := 0, locals := 43 }
set_option maxRecDepth 100000 in
set_option maxHeartbeats 4000000 in
theorem c_X2_isInverse (l : Launch) (D : va_G) (L : mLay) (μ : mSt) (Δ : dSt) (x : Int32) (hR : mRel μ Δ) : gM l yX2_isInverse wsX2_isInverse rmX2_isInverse D (mTy L) (WM L μ) [.ref (kx L), .int x] 0 0 (fun r w => mPost L Δ Δ (kk1 (okR x)) (fun b => b = nI 1) r w) := by
  refine gM.of (cc := cX2_isInverse) (maxL := 2) (ret := (some .boolean)) (own := RX2) (by decide) rfl rfl (Nat.le_of_ble_eq_true rfl) rfl ?_
  intro p e s m args below meth c A Q hC hr hnm hQ
  refine gAloadN (pc := 0) hC dX2_isInverse_0 rfl 0 rfl ?_
  refine gIloadN (pc := 1) hC dX2_isInverse_1 rfl 1 rfl ?_
  refine gV (pc := 2) (rest := []) (ci := 2) (q0 := 0) hC (c_X2_lacks l D L μ x) rfl rfl (cwV 1 hC.2.2.2.2.1 gX2_isInverse_X2_lacks rfl rfl rfl (by decide +kernel) ⟨Nat.le_of_ble_eq_true rfl, Nat.le_of_ble_eq_true rfl⟩) rfl rfl (Nat.le_of_ble_eq_true rfl) dX2_isInverse_2 ⟨Nat.le_of_ble_eq_true rfl, Nat.le_of_ble_eq_true rfl⟩ (fun v w1 hp => ?_)
  obtain ⟨rfl, rfl⟩ := hp
  refine gStk (st' := [.int (bI (¬ (okR x)))]) (pc' := 5) rfl rfl ?_
  refine gIf_ne (pc := 5) hC (tgt := 12) dX2_isInverse_5 (by decide) (fun hc1 => ?_) (fun hc1 => ?_)
  · skip
    have nok : ¬ (okR x) := bI_n.mp hc1
    refine gIconst (pc := 12) hC (v := (nI 0)) dX2_isInverse_12 (by decide +kernel) ?_
    exact gRetZ hC hQ hr (by first | rfl | exact bI_ret) (Nat.le_of_ble_eq_true rfl) (Nat.le_of_ble_eq_true rfl) dX2_isInverse_13 (⟨_, rfl, _, rfl, by rw [kk1_1 nok]; exact thr_f nok, Or.inr ⟨kne (kk1_1 nok) ne1, hR⟩⟩)
  · skip
    have ok : okR x := nn (bI_0.mp hc1)
    obtain ⟨ν2, eν2, hRν2, htν2⟩ : ∃ ζ : mSt, ζ = (mTh μ (if okR x then nI 0 else nI 1)) ∧ mRel ζ Δ ∧ mt ζ = nI (kk1 (okR x)) := ⟨_, rfl, hR, (by rw [kk1_0 ok]; exact thr_t ok)⟩
    refine gWs (ws' := WM L ν2) (by first | (rw [eν2]; done) | (rw [eν2]; rfl)) ?_
    refine gIconst (pc := 8) hC (v := (nI 1)) dX2_isInverse_8 (by decide +kernel) ?_
    refine gGoto (pc := 9) hC (tgt := 13) dX2_isInverse_9 (by decide) ?_
    exact gRetZ hC hQ hr (rfl) (Nat.le_of_ble_eq_true rfl) (Nat.le_of_ble_eq_true rfl) dX2_isInverse_13 (⟨_, rfl, _, rfl, htν2, Or.inl ⟨(kk1_0 ok), rfl, hRν2⟩⟩)

abbrev rmX2_isShifted : Room := { frames := 2, cells := 0, slots := 0, locals := 43 }
set_option maxRecDepth 100000 in
set_option maxHeartbeats 4000000 in
theorem c_X2_isShifted (l : Launch) (D : va_G) (L : mLay) (μ : mSt) (Δ : dSt) (x : Int32) (y : Int32) (hR : mRel μ Δ) : gM l yX2_isShifted wsX2_isShifted rmX2_isShifted D (mTy L) (WM L μ) [.ref (kx L), .int x, .int y] 0 0 (fun r w => mPost L Δ Δ (kk1 (okR x)) (fun b => b = nI 1) r w) := by
  refine gM.of (cc := cX2_isShifted) (maxL := 3) (ret := (some .boolean)) (own := RX2) (by decide) rfl rfl (Nat.le_of_ble_eq_true rfl) rfl ?_
  intro p e s m args below meth c A Q hC hr hnm hQ
  refine gAloadN (pc := 0) hC dX2_isShifted_0 rfl 0 rfl ?_
  refine gIloadN (pc := 1) hC dX2_isShifted_1 rfl 1 rfl ?_
  refine gV (pc := 2) (rest := []) (ci := 2) (q0 := 0) hC (c_X2_lacks l D L μ x) rfl rfl (cwV 1 hC.2.2.2.2.1 gX2_isShifted_X2_lacks rfl rfl rfl (by decide +kernel) ⟨Nat.le_of_ble_eq_true rfl, Nat.le_of_ble_eq_true rfl⟩) rfl rfl (Nat.le_of_ble_eq_true rfl) dX2_isShifted_2 ⟨Nat.le_of_ble_eq_true rfl, Nat.le_of_ble_eq_true rfl⟩ (fun v w1 hp => ?_)
  obtain ⟨rfl, rfl⟩ := hp
  refine gStk (st' := [.int (bI (¬ (okR x)))]) (pc' := 5) rfl rfl ?_
  refine gIf_ne (pc := 5) hC (tgt := 12) dX2_isShifted_5 (by decide) (fun hc1 => ?_) (fun hc1 => ?_)
  · skip
    have nok : ¬ (okR x) := bI_n.mp hc1
    refine gIconst (pc := 12) hC (v := (nI 0)) dX2_isShifted_12 (by decide +kernel) ?_
    exact gRetZ hC hQ hr (by first | rfl | exact bI_ret) (Nat.le_of_ble_eq_true rfl) (Nat.le_of_ble_eq_true rfl) dX2_isShifted_13 (⟨_, rfl, _, rfl, by rw [kk1_1 nok]; exact thr_f nok, Or.inr ⟨kne (kk1_1 nok) ne1, hR⟩⟩)
  · skip
    have ok : okR x := nn (bI_0.mp hc1)
    obtain ⟨ν2, eν2, hRν2, htν2⟩ : ∃ ζ : mSt, ζ = (mTh μ (if okR x then nI 0 else nI 1)) ∧ mRel ζ Δ ∧ mt ζ = nI (kk1 (okR x)) := ⟨_, rfl, hR, (by rw [kk1_0 ok]; exact thr_t ok)⟩
    refine gWs (ws' := WM L ν2) (by first | (rw [eν2]; done) | (rw [eν2]; rfl)) ?_
    refine gIconst (pc := 8) hC (v := (nI 1)) dX2_isShifted_8 (by decide +kernel) ?_
    refine gGoto (pc := 9) hC (tgt := 13) dX2_isShifted_9 (by decide) ?_
    exact gRetZ hC hQ hr (rfl) (Nat.le_of_ble_eq_true rfl) (Nat.le_of_ble_eq_true rfl) dX2_isShifted_13 (⟨_, rfl, _, rfl, htν2, Or.inl ⟨(kk1_0 ok), rfl, hRν2⟩⟩)

abbrev rmX2_isSound : Room := { frames := 0, cells := 0, slots := 0, locals := 0 }
set_option maxRecDepth 100000 in
set_option maxHeartbeats 4000000 in
theorem c_X2_isSound (l : Launch) (D : va_G) (L : mLay) (μ : mSt) (Δ : dSt)  (hR : mRel μ Δ) : gM l yX2_isSound wsX2_isSound rmX2_isSound D (mTy L) (WM L μ) [.ref (kx L)] 0 0 (fun r w => ∃ b : Int32, r = some (.int b) ∧ ∃ μ', w = WM L μ' ∧ (mRel μ' Δ ∧ b = nI 1)) := by
  refine gM.of (cc := cX2_isSound) (maxL := 1) (ret := (some .boolean)) (own := RX2) (by decide) rfl rfl (Nat.le_of_ble_eq_true rfl) rfl ?_
  intro p e s m args below meth c A Q hC hr hnm hQ
  refine gIconst (pc := 0) hC (v := (nI 1)) dX2_isSound_0 (by decide +kernel) ?_
  exact gRetZ hC hQ hr (rfl) (Nat.le_of_ble_eq_true rfl) (Nat.le_of_ble_eq_true rfl) dX2_isSound_1 (⟨_, rfl, _, rfl, hR, rfl⟩)

abbrev rmX2_checksum : Room := { frames := 0, cells := 0, slots := 0, locals := 0 }
set_option maxRecDepth 100000 in
set_option maxHeartbeats 4000000 in
theorem c_X2_checksum (l : Launch) (D : va_G) (L : mLay) (μ : mSt) (Δ : dSt)  (hR : mRel μ Δ) : gM l yX2_checksum wsX2_checksum rmX2_checksum D (mTy L) (WM L μ) [.ref (kx L)] 0 0 (fun r w => ∃ b : Int64, r = some (.long b) ∧ ∃ μ', w = WM L μ' ∧ (mRel μ' Δ ∧ b = ckD Δ 4)) := by
  refine gM.of (cc := cX2_checksum) (maxL := 5) (ret := (some .long)) (own := RX2) (by decide) rfl rfl (Nat.le_of_ble_eq_true rfl) rfl ?_
  intro p e s m args below meth c A Q hC hr hnm hQ
  have hin2 : ∀ w ∈ u_ws RX2 TX2 6, w ∈ wsX2_checksum := by decide +kernel
  have hl11 : Cond.fieldLink RX2 11 "RootrowsModel" "numbers" "[[I" ∈ wsX2_checksum := by decide +kernel
  have hl14 : Cond.fieldLink RX2 14 "RootrowsModel" "lengths" "[I" ∈ wsX2_checksum := by decide +kernel
  have hl24 : Cond.fieldLink RX2 24 "RootrowsModel" "odd" "I" ∈ wsX2_checksum := by decide +kernel
  refine gLdc2 (pc := 0) hC (v := 217) dX2_checksum_0 (by decide +kernel) ?_
  refine gAloadN (pc := 3) hC dX2_checksum_3 rfl 0 rfl ?_
  refine mGetInt (pc := 4) hC 4 (v := (nI Δ.1)) (by decide) ⟨rfl, congrArg (fun z => some (Value.int z)) (hR.1)⟩ hin2 hl24 dX2_checksum_4 ?_
  refine gI2l (pc := 7) hC (v := (lN Δ.1)) dX2_checksum_7 (nI_l (by have := hR.2.1; unfold okO at this; omega)) ?_
  refine gLadd (pc := 8) hC (v := (ckD Δ 0)) dX2_checksum_8 (rfl) ?_
  refine gLstoreN (pc := 9) hC (lv' := [(1, .long (ckD Δ 0)), (0, .ref (kx L))]) dX2_checksum_9 rfl (by decide) rfl ?_
  refine gIconst (pc := 10) hC (v := (nI 0)) dX2_checksum_10 (by decide +kernel) ?_
  refine gIstoreN (pc := 11) hC (lv' := [(3, .int (nI 0)), (1, .long (ckD Δ 0)), (0, .ref (kx L))]) dX2_checksum_11 rfl (by decide) rfl ?_
  refine gLoc (lv' := [(3, .int (nI 0)), (1, .long (ckD Δ 0)), (0, .ref (kx L))]) [0, 1, 2] rfl ?_
  refine loopUp (S := Int64) (fun i ζ => gG p l e rmX2_checksum s m args below meth c D A 5 0 0 Q (WM L μ) 12 [(3, .int (nI i)), (1, .long ζ), (0, .ref (kx L))] []) (fun i ζ => ζ = ckD Δ i) 4 ?_ ?_ 0 ((ckD Δ 0)) (by omega) (rfl)
  · intro ζ hI
    revert hI; generalize ζ = c1; intro hI
    refine gIloadN (pc := 12) hC dX2_checksum_12 rfl 0 rfl ?_
    refine gIconst (pc := 13) hC (v := (nI 4)) dX2_checksum_13 (by decide +kernel) ?_
    refine gIcmp_ge (pc := 14) hC (tgt := 74) dX2_checksum_14 (by decide) (fun hc1 => ?_) (fun hc1 => absurd (nI_le (Nat.le_refl _) (by decide)) hc1)
    refine gLloadN (pc := 74) hC dX2_checksum_74 rfl 1 rfl ?_
    exact gRetL hC hQ hr (Nat.le_of_ble_eq_true rfl) (Nat.le_of_ble_eq_true rfl) dX2_checksum_75 (⟨_, rfl, _, rfl, hR, hI⟩)
  · intro i ζ hi hI ih
    revert hI; generalize ζ = c1; intro hI
    refine gIloadN (pc := 12) hC dX2_checksum_12 rfl 0 rfl ?_
    refine gIconst (pc := 13) hC (v := (nI 4)) dX2_checksum_13 (by decide +kernel) ?_
    refine gIcmp_ge (pc := 14) hC (tgt := 74) dX2_checksum_14 (by decide) (fun hc2 => absurd hc2 (nI_ge hi (by decide))) (fun hc2 => ?_)
    have h0 := hR.is hi
    have hle := hR.len hi
    have hL := (hR.okl hi).N.le
    refine gLdc2 (pc := 17) hC (v := 31) dX2_checksum_17 (by decide +kernel) ?_
    refine gLloadN (pc := 20) hC dX2_checksum_20 rfl 1 rfl ?_
    refine gLmul (pc := 21) hC (v := (lN 31 * ckD Δ i)) dX2_checksum_21 (by rw [hI]; rfl) ?_
    refine gAloadN (pc := 22) hC dX2_checksum_22 rfl 2 rfl ?_
    refine mGetArr (pc := 23) hC 1 (a := (kl L)) (by decide) ⟨rfl, rfl, rfl⟩ hin2 hl14 dX2_checksum_23 ?_
    refine gIloadN (pc := 26) hC dX2_checksum_26 rfl 0 rfl ?_
    refine mLenLd (pc := 27) hC (v := (nI (Δ.2.1 i))) i (rfl) (by omega) (hle) dX2_checksum_27 ?_
    refine gI2l (pc := 28) hC (v := (lN (Δ.2.1 i))) dX2_checksum_28 (nI_l (by omega)) ?_
    refine gLadd (pc := 29) hC (v := (lN 31 * ckD Δ i + lN (Δ.2.1 i))) dX2_checksum_29 (rfl) ?_
    refine gLstoreN (pc := 30) hC (lv' := [(1, .long (lN 31 * ckD Δ i + lN (Δ.2.1 i))), (3, .int (nI i)), (0, .ref (kx L))]) dX2_checksum_30 rfl (by decide) rfl ?_
    refine gIconst (pc := 31) hC (v := (nI 0)) dX2_checksum_31 (by decide +kernel) ?_
    refine gIstore (pc := 32) hC (lv' := [(4, .int (nI 0)), (1, .long (lN 31 * ckD Δ i + lN (Δ.2.1 i))), (3, .int (nI i)), (0, .ref (kx L))]) dX2_checksum_32 (by decide) rfl ?_
    have hi1 := hi
    clear hi
    refine gLoc (lv' := [(4, .int (nI 0)), (1, .long (lN 31 * ckD Δ i + lN (Δ.2.1 i))), (3, .int (nI i)), (0, .ref (kx L))]) [0, 1, 2, 3] rfl ?_
    refine loopUp (S := Int64) (fun j ζ => gG p l e rmX2_checksum s m args below meth c D A 5 0 0 Q (WM L μ) 34 [(4, .int (nI j)), (1, .long ζ), (3, .int (nI i)), (0, .ref (kx L))] []) (fun j ζ => ζ = ckR (Δ.2.2 i) (lN 31 * ckD Δ i + lN (Δ.2.1 i)) j) (Δ.2.1 i) ?_ ?_ 0 ((lN 31 * ckD Δ i + lN (Δ.2.1 i))) (by omega) (rfl)
    · intro ζ hJ
      revert hJ; generalize ζ = c2; intro hJ
      refine gIload (pc := 34) hC dX2_checksum_34 0 rfl ?_
      refine gAloadN (pc := 36) hC dX2_checksum_36 rfl 3 rfl ?_
      refine mGetArr (pc := 37) hC 1 (a := (kl L)) (by decide) ⟨rfl, rfl, rfl⟩ hin2 hl14 dX2_checksum_37 ?_
      refine gIloadN (pc := 40) hC dX2_checksum_40 rfl 2 rfl ?_
      refine mLenLd (pc := 41) hC (v := (nI (Δ.2.1 i))) i (rfl) (by omega) (hle) dX2_checksum_41 ?_
      refine gIcmp_ge (pc := 42) hC (tgt := 68) dX2_checksum_42 (by decide) (fun hc3 => ?_) (fun hc3 => absurd (nI_le (Nat.le_refl _) (by omega)) hc3)
      refine gIinc (pc := 68) hC (v := (nI (i + 1))) (lv' := [(3, .int (nI (i + 1))), (4, .int (nI (Δ.2.1 i))), (1, .long c2), (0, .ref (kx L))]) dX2_checksum_68 (q := 2) rfl (nI_1 _) (by decide) rfl ?_
      refine gGoto (pc := 71) hC (tgt := 12) dX2_checksum_71 (by decide) ?_
      refine gLoc (lv' := [(3, .int (nI (i + 1))), (1, .long c2), (0, .ref (kx L))]) [0, 2, 3] rfl ?_
      exact ih (c2) (by rw [hJ, ckD_s])
    · intro j ζ hj hJ jh
      revert hJ; generalize ζ = c2; intro hJ
      refine gIload (pc := 34) hC dX2_checksum_34 0 rfl ?_
      refine gAloadN (pc := 36) hC dX2_checksum_36 rfl 3 rfl ?_
      refine mGetArr (pc := 37) hC 1 (a := (kl L)) (by decide) ⟨rfl, rfl, rfl⟩ hin2 hl14 dX2_checksum_37 ?_
      refine gIloadN (pc := 40) hC dX2_checksum_40 rfl 2 rfl ?_
      refine mLenLd (pc := 41) hC (v := (nI (Δ.2.1 i))) i (rfl) (by omega) (hle) dX2_checksum_41 ?_
      refine gIcmp_ge (pc := 42) hC (tgt := 68) dX2_checksum_42 (by decide) (fun hc4 => absurd hc4 (nI_ge hj (by omega))) (fun hc4 => ?_)
      refine gLdc2 (pc := 45) hC (v := 31) dX2_checksum_45 (by decide +kernel) ?_
      refine gLloadN (pc := 48) hC dX2_checksum_48 rfl 1 rfl ?_
      refine gLmul (pc := 49) hC (v := (lN 31 * ckR (Δ.2.2 i) (lN 31 * ckD Δ i + lN (Δ.2.1 i)) j)) dX2_checksum_49 (by rw [hJ]; rfl) ?_
      refine gAloadN (pc := 50) hC dX2_checksum_50 rfl 3 rfl ?_
      refine mGetArr (pc := 51) hC 0 (a := (kn L)) (by decide) ⟨rfl, rfl, rfl⟩ hin2 hl11 dX2_checksum_51 ?_
      refine gIloadN (pc := 54) hC dX2_checksum_54 rfl 2 rfl ?_
      refine mRowAld (pc := 55) hC i (rfl) (by omega) dX2_checksum_55 ?_
      refine gIload (pc := 56) hC dX2_checksum_56 0 rfl ?_
      refine mNumLd (pc := 58) hC (K := i) (v := (nI ((Δ.2.2 i) j).val)) (by omega) j (rfl) (by omega) (h0 _ (by omega)) dX2_checksum_58 ?_
      refine gI2l (pc := 59) hC (v := (lN ((Δ.2.2 i) j).val)) dX2_checksum_59 (nI_l (by have := ((Δ.2.2 i) j).isLt; omega)) ?_
      refine gLadd (pc := 60) hC (v := (ckR (Δ.2.2 i) (lN 31 * ckD Δ i + lN (Δ.2.1 i)) (j + 1))) dX2_checksum_60 (rfl) ?_
      refine gLstoreN (pc := 61) hC (lv' := [(1, .long (ckR (Δ.2.2 i) (lN 31 * ckD Δ i + lN (Δ.2.1 i)) (j + 1))), (4, .int (nI j)), (3, .int (nI i)), (0, .ref (kx L))]) dX2_checksum_61 rfl (by decide) rfl ?_
      refine gIinc (pc := 62) hC (v := (nI (j + 1))) (lv' := [(4, .int (nI (j + 1))), (1, .long (ckR (Δ.2.2 i) (lN 31 * ckD Δ i + lN (Δ.2.1 i)) (j + 1))), (3, .int (nI i)), (0, .ref (kx L))]) dX2_checksum_62 (q := 1) rfl (nI_1 _) (by decide) rfl ?_
      refine gGoto (pc := 65) hC (tgt := 34) dX2_checksum_65 (by decide) ?_
      refine gLoc (lv' := [(4, .int (nI (j + 1))), (1, .long (ckR (Δ.2.2 i) (lN 31 * ckD Δ i + lN (Δ.2.1 i)) (j + 1))), (3, .int (nI i)), (0, .ref (kx L))]) [0, 1, 2, 3] rfl ?_
      exact jh ((ckR (Δ.2.2 i) (lN 31 * ckD Δ i + lN (Δ.2.1 i)) (j + 1))) (rfl)
