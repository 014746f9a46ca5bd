abbrev rmX2_times : Room := { frames := 2, cells := 0, slots := 0, locals := 52 }
set_option maxRecDepth 100000 in
set_option maxHeartbeats 4000000 in
theorem c_X2_times (l : Launch) (D : va_G) (L : mLay) (μ : mSt) (Δ : dSt) (x : Int32) (y : Int32) (z : Int32) (hR : mRel μ Δ) : gM l yX2_times wsX2_times rmX2_times D (mTy L) (WM L μ) [.ref (kx L), .int x, .int y, .int z] 0 0 (fun r w => mPost L Δ (dRow Δ (rI x) (Δ.2.1 (rI x)) (rp (Δ.2.1 (rI x)) (Δ.2.2 (rI x)) (Δ.2.2 (rI y)))) (kk2 (okR x ∧ okR y) ((Δ.2.1 (rI x)) = (Δ.2.1 (rI y)))) (fun b => b = nI (cz (rp (Δ.2.1 (rI x)) (Δ.2.2 (rI x)) (Δ.2.2 (rI y))) (Δ.2.1 (rI x)))) r w) := by
  refine gM.of (cc := cX2_times) (maxL := 4) (ret := (some .int)) (own := RX2) (by decide) rfl rfl (Nat.le_of_ble_eq_true rfl) rfl ?_
  intro p e s m args below meth c A Q hC hr hnm hQ
  have hin2 : ∀ w ∈ u_ws RX2 TX2 6, w ∈ wsX2_times := by decide +kernel
  have hl14 : Cond.fieldLink RX2 14 "RootrowsModel" "lengths" "[I" ∈ wsX2_times := by decide +kernel
  refine gAloadN (pc := 0) hC dX2_times_0 rfl 0 rfl ?_
  refine gIloadN (pc := 1) hC dX2_times_1 rfl 1 rfl ?_
  refine gIloadN (pc := 2) hC dX2_times_2 rfl 2 rfl ?_
  refine gV (pc := 3) (rest := []) (ci := 2) (q0 := 0) hC (c_X2_lacksTwo l D L μ x y) rfl rfl (cwV 2 hC.2.2.2.2.1 gX2_times_X2_lacksTwo rfl rfl rfl (by decide +kernel) ⟨Nat.le_of_ble_eq_true rfl, Nat.le_of_ble_eq_true rfl⟩) rfl rfl (Nat.le_of_ble_eq_true rfl) dX2_times_3 ⟨Nat.le_of_ble_eq_true rfl, Nat.le_of_ble_eq_true rfl⟩ (fun v w1 hp => ?_)
  obtain ⟨rfl, rfl⟩ := hp
  refine gStk (st' := [.int (bI (¬ (okR x ∧ okR y)))]) (pc' := 6) rfl rfl ?_
  refine gIf_ne (pc := 6) hC (tgt := 37) dX2_times_6 (by decide) (fun hc1 => ?_) (fun hc1 => ?_)
  · skip
    have nok : ¬ (okR x ∧ okR y) := bI_n.mp hc1
    refine gIconst (pc := 37) hC (v := (nI 0)) dX2_times_37 (by decide +kernel) ?_
    exact gRetI hC hQ hr (Nat.le_of_ble_eq_true rfl) (Nat.le_of_ble_eq_true rfl) dX2_times_38 (⟨_, rfl, _, rfl, by rw [kk2_1 nok]; exact thr_f nok, Or.inr ⟨kne (kk2_1 nok) ne1, hR⟩⟩)
  · skip
    have ok : (okR x ∧ okR y) := nn (bI_0.mp hc1)
    obtain ⟨hi, ei⟩ := ok.1.get
    obtain ⟨hi2, ei2⟩ := ok.2.get
    have hle := hR.len hi
    have hle2 := hR.len hi2
    refine gAloadN (pc := 9) hC dX2_times_9 rfl 0 rfl ?_
    refine gAloadN (pc := 10) hC dX2_times_10 rfl 0 rfl ?_
    refine mGetArr (pc := 11) hC 1 (a := (kl L)) (by decide) ⟨rfl, rfl, rfl⟩ hin2 hl14 dX2_times_11 ?_
    refine gIloadN (pc := 14) hC dX2_times_14 rfl 1 rfl ?_
    refine mLenLd (pc := 15) hC (v := (nI (Δ.2.1 (rI x)))) (rI x) (ei) (hi) (hle) dX2_times_15 ?_
    refine gAloadN (pc := 16) hC dX2_times_16 rfl 0 rfl ?_
    refine mGetArr (pc := 17) hC 1 (a := (kl L)) (by decide) ⟨rfl, rfl, rfl⟩ hin2 hl14 dX2_times_17 ?_
    refine gIloadN (pc := 20) hC dX2_times_20 rfl 2 rfl ?_
    refine mLenLd (pc := 21) hC (v := (nI (Δ.2.1 (rI y)))) (rI y) (ei2) (hi2) (hle2) dX2_times_21 ?_
    refine gIcmp_ne (pc := 22) hC (tgt := 29) dX2_times_22 (by decide) (fun hc2 => ?_) (fun hc2 => ?_)
    · skip
      have noka : ¬ ((Δ.2.1 (rI x)) = (Δ.2.1 (rI y))) := fun q => hc2 ((len_eq hR hi hi2).mpr q)
      refine gIconst (pc := 29) hC (v := (nI 0)) dX2_times_29 (by decide +kernel) ?_
      refine gStk (st' := [.int (bI ((Δ.2.1 (rI x)) = (Δ.2.1 (rI y)))), .ref (kx L)]) (pc' := 30) (by rw [bI_f noka]) rfl ?_
      refine gIconst (pc := 30) hC (v := (nI 2)) dX2_times_30 (by decide +kernel) ?_
      refine gV (pc := 31) (rest := []) (ci := 2) (q0 := 0) hC (c_X2_no l D L (mTh μ (if (okR x ∧ okR y) then nI 0 else nI 1)) ((Δ.2.1 (rI x)) = (Δ.2.1 (rI y))) (nI 2)) rfl rfl (cwV 2 hC.2.2.2.2.1 gX2_times_X2_no rfl rfl rfl (by decide +kernel) ⟨Nat.le_of_ble_eq_true rfl, Nat.le_of_ble_eq_true rfl⟩) rfl rfl (Nat.le_of_ble_eq_true rfl) dX2_times_31 ⟨Nat.le_of_ble_eq_true rfl, Nat.le_of_ble_eq_true rfl⟩ (fun v w1 hp => ?_)
      obtain ⟨rfl, rfl⟩ := hp
      refine gStk (st' := [.int (bI (¬ ((Δ.2.1 (rI x)) = (Δ.2.1 (rI y)))))]) (pc' := 34) rfl rfl ?_
      refine gIf_eq (pc := 34) hC (tgt := 39) dX2_times_34 (by decide) (fun hc3 => absurd hc3 (bI_n.mpr noka)) (fun hc3 => ?_)
      refine gIconst (pc := 37) hC (v := (nI 0)) dX2_times_37 (by decide +kernel) ?_
      exact gRetI hC hQ hr (Nat.le_of_ble_eq_true rfl) (Nat.le_of_ble_eq_true rfl) dX2_times_38 (⟨_, rfl, _, rfl, by rw [kk2_2 ok noka]; exact thr_f noka, Or.inr ⟨kne (kk2_2 ok noka) ne2, hR⟩⟩)
    · skip
      have oka : ((Δ.2.1 (rI x)) = (Δ.2.1 (rI y))) := (len_eq hR hi hi2).mp hc2
      refine gIconst (pc := 25) hC (v := (nI 1)) dX2_times_25 (by decide +kernel) ?_
      refine gGoto (pc := 26) hC (tgt := 30) dX2_times_26 (by decide) ?_
      refine gStk (st' := [.int (bI ((Δ.2.1 (rI x)) = (Δ.2.1 (rI y)))), .ref (kx L)]) (pc' := 30) (by rw [bI_t oka]) rfl ?_
      refine gIconst (pc := 30) hC (v := (nI 2)) dX2_times_30 (by decide +kernel) ?_
      refine gV (pc := 31) (rest := []) (ci := 2) (q0 := 0) hC (c_X2_no l D L (mTh μ (if (okR x ∧ okR y) then nI 0 else nI 1)) ((Δ.2.1 (rI x)) = (Δ.2.1 (rI y))) (nI 2)) rfl rfl (cwV 2 hC.2.2.2.2.1 gX2_times_X2_no rfl rfl rfl (by decide +kernel) ⟨Nat.le_of_ble_eq_true rfl, Nat.le_of_ble_eq_true rfl⟩) rfl rfl (Nat.le_of_ble_eq_true rfl) dX2_times_31 ⟨Nat.le_of_ble_eq_true rfl, Nat.le_of_ble_eq_true rfl⟩ (fun v w1 hp => ?_)
      obtain ⟨rfl, rfl⟩ := hp
      refine gStk (st' := [.int (bI (¬ ((Δ.2.1 (rI x)) = (Δ.2.1 (rI y)))))]) (pc' := 34) rfl rfl ?_
      refine gIf_eq (pc := 34) hC (tgt := 39) dX2_times_34 (by decide) (fun hc4 => ?_) (fun hc4 => absurd (bI_0.mpr (fun q => q oka)) hc4)
      obtain ⟨ν5, eν5, hRν5, htν5⟩ : ∃ ζ : mSt, ζ = (mTh μ (if ((Δ.2.1 (rI x)) = (Δ.2.1 (rI y))) then nI 0 else nI 2)) ∧ mRel ζ Δ ∧ mt ζ = nI (kk2 (okR x ∧ okR y) ((Δ.2.1 (rI x)) = (Δ.2.1 (rI y)))) := ⟨_, rfl, hR, (by rw [kk2_0 ok oka]; exact thr_t oka)⟩
      refine gWs (ws' := WM L ν5) (by first | (rw [eν5]; done) | (rw [eν5]; rfl)) ?_
      obtain ⟨hi, ei⟩ := ok.1.get
      have hl_ := hRν5.okl hi
      have hle := hRν5.len hi
      have hF := hRν5.is hi
      have hz := hRν5.zer hi
      have hN := hl_.N
      have hL := hN.le
      have hp := hN.pos
      have hx6 : Value.int x = Value.int (nI (rI x)) := congrArg Value.int ei
      refine gLocE (lv' := [(0, .ref (kx L)), (1, .int (nI (rI x))), (2, .int y), (3, .int z)]) (by first | (rw [← hx6]; done) | (rw [← hx6]; rfl)) ?_
      obtain ⟨hi2, ei2⟩ := ok.2.get
      have hl2_ := hRν5.okl hi2
      have hle2 := hRν5.len hi2
      have hF2 := hRν5.is hi2
      have hz2 := hRν5.zer hi2
      have hN2 := hl2_.N
      have hL2 := hN2.le
      have hp2 := hN2.pos
      have hx7 : Value.int y = Value.int (nI (rI y)) := congrArg Value.int ei2
      refine gLocE (lv' := [(0, .ref (kx L)), (1, .int (nI (rI x))), (2, .int (nI (rI y))), (3, .int z)]) (by first | (rw [← hx7]; done) | (rw [← hx7]; rfl)) ?_
      have hG : mIs ν5 (rI y) (Δ.2.1 (rI x)) (Δ.2.2 (rI y)) := by rw [oka]; exact hF2
      refine gAloadN (pc := 39) hC dX2_times_39 rfl 0 rfl ?_
      refine gIloadN (pc := 40) hC dX2_times_40 rfl 1 rfl ?_
      refine gIloadN (pc := 41) hC dX2_times_41 rfl 2 rfl ?_
      refine gAloadN (pc := 42) hC dX2_times_42 rfl 0 rfl ?_
      refine mGetArr (pc := 43) hC 1 (a := (kl L)) (by decide) ⟨rfl, rfl, rfl⟩ hin2 hl14 dX2_times_43 ?_
      refine gIloadN (pc := 46) hC dX2_times_46 rfl 1 rfl ?_
      refine mLenLd (pc := 47) hC (v := (nI (Δ.2.1 (rI x)))) (rI x) (rfl) (hi) (hle) dX2_times_47 ?_
      refine gV (pc := 48) (rest := []) (ci := 2) (q0 := 0) hC (c_X2_multiplied l D L ν5 (rI x) (rI y) (Δ.2.1 (rI x)) (Δ.2.1 (rI x)) (Δ.2.2 (rI x)) (Δ.2.2 (rI y)) hi hi2 hle hF hG hL hp hL) rfl rfl (cwV 3 hC.2.2.2.2.1 gX2_times_X2_multiplied rfl rfl rfl (by decide +kernel) ⟨Nat.le_of_ble_eq_true rfl, Nat.le_of_ble_eq_true rfl⟩) rfl rfl (Nat.le_of_ble_eq_true rfl) dX2_times_48 ⟨Nat.le_of_ble_eq_true rfl, Nat.le_of_ble_eq_true rfl⟩ (fun v w1 hp => ?_)
      obtain ⟨rfl, ν1, rfl, h1'⟩ := hp
      refine gStk (st' := []) (pc' := 51) rfl rfl ?_
      have h1 := h1'.cong (G := (rp (Δ.2.1 (rI x)) (Δ.2.2 (rI x)) (Δ.2.2 (rI y)))) (fun j hj => mq_rp _ _ hj)
      refine gAloadN (pc := 51) hC dX2_times_51 rfl 0 rfl ?_
      refine gIloadN (pc := 52) hC dX2_times_52 rfl 1 rfl ?_
      refine gV (pc := 53) (rest := []) (ci := 2) (q0 := 0) hC (c_X2_putZeros l D L ν1 (rI x) (Δ.2.1 (rI x)) (Δ.2.2 (rI x)) (rp (Δ.2.1 (rI x)) (Δ.2.2 (rI x)) (Δ.2.2 (rI y))) hi (h1.len hle) (h1.is hF) h1.got (by omega)) rfl rfl (cwV 1 hC.2.2.2.2.1 gX2_times_X2_putZeros rfl rfl rfl (by decide +kernel) ⟨Nat.le_of_ble_eq_true rfl, Nat.le_of_ble_eq_true rfl⟩) rfl rfl (Nat.le_of_ble_eq_true rfl) dX2_times_53 ⟨Nat.le_of_ble_eq_true rfl, Nat.le_of_ble_eq_true rfl⟩ (fun v w1 hp => ?_)
      obtain ⟨rfl, ν2, rfl, h2⟩ := hp
      refine gStk (st' := [.int (nI (cz (rp (Δ.2.1 (rI x)) (Δ.2.2 (rI x)) (Δ.2.2 (rI y))) (Δ.2.1 (rI x))))]) (pc' := 56) rfl rfl ?_
      exact gRetI hC hQ hr (Nat.le_of_ble_eq_true rfl) (Nat.le_of_ble_eq_true rfl) dX2_times_56 (⟨_, rfl, _, rfl, (h2.thr.trans (h1.thr.trans htν5)), Or.inl ⟨(kk2_0 ok oka), rfl, mFill.relput hRν5 hi h1 h2⟩⟩)

abbrev rmX2_isProduct : Room := { frames := 2, cells := 0, slots := 0, locals := 44 }
set_option maxRecDepth 100000 in
set_option maxHeartbeats 4000000 in
theorem c_X2_isProduct (l : Launch) (D : va_G) (L : mLay) (μ : mSt) (Δ : dSt) (x : Int32) (y : Int32) (hR : mRel μ Δ) : gM l yX2_isProduct wsX2_isProduct rmX2_isProduct D (mTy L) (WM L μ) [.ref (kx L), .int x, .int y] 0 0 (fun r w => mPost L Δ Δ (kk2 (okR x ∧ okR y) ((Δ.2.1 (rI x)) = (Δ.2.1 (rI y)))) (fun b => b = nI 1) r w) := by
  refine gM.of (cc := cX2_isProduct) (maxL := 3) (ret := (some .boolean)) (own := RX2) (by decide) rfl rfl (Nat.le_of_ble_eq_true rfl) rfl ?_
  intro p e s m args below meth c A Q hC hr hnm hQ
  have hin2 : ∀ w ∈ u_ws RX2 TX2 6, w ∈ wsX2_isProduct := by decide +kernel
  have hl14 : Cond.fieldLink RX2 14 "RootrowsModel" "lengths" "[I" ∈ wsX2_isProduct := by decide +kernel
  refine gAloadN (pc := 0) hC dX2_isProduct_0 rfl 0 rfl ?_
  refine gIloadN (pc := 1) hC dX2_isProduct_1 rfl 1 rfl ?_
  refine gIloadN (pc := 2) hC dX2_isProduct_2 rfl 2 rfl ?_
  refine gV (pc := 3) (rest := []) (ci := 2) (q0 := 0) hC (c_X2_lacksTwo l D L μ x y) rfl rfl (cwV 2 hC.2.2.2.2.1 gX2_isProduct_X2_lacksTwo rfl rfl rfl (by decide +kernel) ⟨Nat.le_of_ble_eq_true rfl, Nat.le_of_ble_eq_true rfl⟩) rfl rfl (Nat.le_of_ble_eq_true rfl) dX2_isProduct_3 ⟨Nat.le_of_ble_eq_true rfl, Nat.le_of_ble_eq_true rfl⟩ (fun v w1 hp => ?_)
  obtain ⟨rfl, rfl⟩ := hp
  refine gStk (st' := [.int (bI (¬ (okR x ∧ okR y)))]) (pc' := 6) rfl rfl ?_
  refine gIf_ne (pc := 6) hC (tgt := 41) dX2_isProduct_6 (by decide) (fun hc1 => ?_) (fun hc1 => ?_)
  · skip
    have nok : ¬ (okR x ∧ okR y) := bI_n.mp hc1
    refine gIconst (pc := 41) hC (v := (nI 0)) dX2_isProduct_41 (by decide +kernel) ?_
    exact gRetZ hC hQ hr (by first | rfl | exact bI_ret) (Nat.le_of_ble_eq_true rfl) (Nat.le_of_ble_eq_true rfl) dX2_isProduct_42 (⟨_, rfl, _, rfl, by rw [kk2_1 nok]; exact thr_f nok, Or.inr ⟨kne (kk2_1 nok) ne1, hR⟩⟩)
  · skip
    have ok : (okR x ∧ okR y) := nn (bI_0.mp hc1)
    obtain ⟨hi, ei⟩ := ok.1.get
    obtain ⟨hi2, ei2⟩ := ok.2.get
    have hle := hR.len hi
    have hle2 := hR.len hi2
    refine gAloadN (pc := 9) hC dX2_isProduct_9 rfl 0 rfl ?_
    refine gAloadN (pc := 10) hC dX2_isProduct_10 rfl 0 rfl ?_
    refine mGetArr (pc := 11) hC 1 (a := (kl L)) (by decide) ⟨rfl, rfl, rfl⟩ hin2 hl14 dX2_isProduct_11 ?_
    refine gIloadN (pc := 14) hC dX2_isProduct_14 rfl 1 rfl ?_
    refine mLenLd (pc := 15) hC (v := (nI (Δ.2.1 (rI x)))) (rI x) (ei) (hi) (hle) dX2_isProduct_15 ?_
    refine gAloadN (pc := 16) hC dX2_isProduct_16 rfl 0 rfl ?_
    refine mGetArr (pc := 17) hC 1 (a := (kl L)) (by decide) ⟨rfl, rfl, rfl⟩ hin2 hl14 dX2_isProduct_17 ?_
    refine gIloadN (pc := 20) hC dX2_isProduct_20 rfl 2 rfl ?_
    refine mLenLd (pc := 21) hC (v := (nI (Δ.2.1 (rI y)))) (rI y) (ei2) (hi2) (hle2) dX2_isProduct_21 ?_
    refine gIcmp_ne (pc := 22) hC (tgt := 29) dX2_isProduct_22 (by decide) (fun hc2 => ?_) (fun hc2 => ?_)
    · skip
      have noka : ¬ ((Δ.2.1 (rI x)) = (Δ.2.1 (rI y))) := fun q => hc2 ((len_eq hR hi hi2).mpr q)
      refine gIconst (pc := 29) hC (v := (nI 0)) dX2_isProduct_29 (by decide +kernel) ?_
      refine gStk (st' := [.int (bI ((Δ.2.1 (rI x)) = (Δ.2.1 (rI y)))), .ref (kx L)]) (pc' := 30) (by rw [bI_f noka]) rfl ?_
      refine gIconst (pc := 30) hC (v := (nI 2)) dX2_isProduct_30 (by decide +kernel) ?_
      refine gV (pc := 31) (rest := []) (ci := 2) (q0 := 0) hC (c_X2_no l D L (mTh μ (if (okR x ∧ okR y) then nI 0 else nI 1)) ((Δ.2.1 (rI x)) = (Δ.2.1 (rI y))) (nI 2)) rfl rfl (cwV 2 hC.2.2.2.2.1 gX2_isProduct_X2_no rfl rfl rfl (by decide +kernel) ⟨Nat.le_of_ble_eq_true rfl, Nat.le_of_ble_eq_true rfl⟩) rfl rfl (Nat.le_of_ble_eq_true rfl) dX2_isProduct_31 ⟨Nat.le_of_ble_eq_true rfl, Nat.le_of_ble_eq_true rfl⟩ (fun v w1 hp => ?_)
      obtain ⟨rfl, rfl⟩ := hp
      refine gStk (st' := [.int (bI (¬ ((Δ.2.1 (rI x)) = (Δ.2.1 (rI y)))))]) (pc' := 34) rfl rfl ?_
      refine gIf_ne (pc := 34) hC (tgt := 41) dX2_isProduct_34 (by decide) (fun hc3 => ?_) (fun hc3 => absurd hc3 (bI_n.mpr noka))
      refine gIconst (pc := 41) hC (v := (nI 0)) dX2_isProduct_41 (by decide +kernel) ?_
      exact gRetZ hC hQ hr (by first | rfl | exact bI_ret) (Nat.le_of_ble_eq_true rfl) (Nat.le_of_ble_eq_true rfl) dX2_isProduct_42 (⟨_, rfl, _, rfl, by rw [kk2_2 ok noka]; exact thr_f noka, Or.inr ⟨kne (kk2_2 ok noka) ne2, hR⟩⟩)
    · skip
      have oka : ((Δ.2.1 (rI x)) = (Δ.2.1 (rI y))) := (len_eq hR hi hi2).mp hc2
      refine gIconst (pc := 25) hC (v := (nI 1)) dX2_isProduct_25 (by decide +kernel) ?_
      refine gGoto (pc := 26) hC (tgt := 30) dX2_isProduct_26 (by decide) ?_
      refine gStk (st' := [.int (bI ((Δ.2.1 (rI x)) = (Δ.2.1 (rI y)))), .ref (kx L)]) (pc' := 30) (by rw [bI_t oka]) rfl ?_
      refine gIconst (pc := 30) hC (v := (nI 2)) dX2_isProduct_30 (by decide +kernel) ?_
      refine gV (pc := 31) (rest := []) (ci := 2) (q0 := 0) hC (c_X2_no l D L (mTh μ (if (okR x ∧ okR y) then nI 0 else nI 1)) ((Δ.2.1 (rI x)) = (Δ.2.1 (rI y))) (nI 2)) rfl rfl (cwV 2 hC.2.2.2.2.1 gX2_isProduct_X2_no rfl rfl rfl (by decide +kernel) ⟨Nat.le_of_ble_eq_true rfl, Nat.le_of_ble_eq_true rfl⟩) rfl rfl (Nat.le_of_ble_eq_true rfl) dX2_isProduct_31 ⟨Nat.le_of_ble_eq_true rfl, Nat.le_of_ble_eq_true rfl⟩ (fun v w1 hp => ?_)
      obtain ⟨rfl, rfl⟩ := hp
      refine gStk (st' := [.int (bI (¬ ((Δ.2.1 (rI x)) = (Δ.2.1 (rI y)))))]) (pc' := 34) rfl rfl ?_
      refine gIf_ne (pc := 34) hC (tgt := 41) dX2_isProduct_34 (by decide) (fun hc4 => absurd (bI_0.mpr (fun q => q oka)) hc4) (fun hc4 => ?_)
      obtain ⟨ν5, eν5, hRν5, htν5⟩ : ∃ ζ : mSt, ζ = (mTh μ (if ((Δ.2.1 (rI x)) = (Δ.2.1 (rI y))) then nI 0 else nI 2)) ∧ mRel ζ Δ ∧ mt ζ = nI (kk2 (okR x ∧ okR y) ((Δ.2.1 (rI x)) = (Δ.2.1 (rI y)))) := ⟨_, rfl, hR, (by rw [kk2_0 ok oka]; exact thr_t oka)⟩
      refine gWs (ws' := WM L ν5) (by first | (rw [eν5]; done) | (rw [eν5]; rfl)) ?_
      refine gIconst (pc := 37) hC (v := (nI 1)) dX2_isProduct_37 (by decide +kernel) ?_
      refine gGoto (pc := 38) hC (tgt := 42) dX2_isProduct_38 (by decide) ?_
      exact gRetZ hC hQ hr (rfl) (Nat.le_of_ble_eq_true rfl) (Nat.le_of_ble_eq_true rfl) dX2_isProduct_42 (⟨_, rfl, _, rfl, htν5, Or.inl ⟨(kk2_0 ok oka), rfl, hRν5⟩⟩)

abbrev rmX2_sum : Room := { frames := 2, cells := 0, slots := 0, locals := 44 }
set_option maxRecDepth 100000 in
set_option maxHeartbeats 4000000 in
theorem c_X2_sum (l : Launch) (D : va_G) (L : mLay) (μ : mSt) (Δ : dSt) (x : Int32) (y : Int32) (z : Int32) (hR : mRel μ Δ) : gM l yX2_sum wsX2_sum rmX2_sum D (mTy L) (WM L μ) [.ref (kx L), .int x, .int y, .int z] 0 0 (fun r w => mPost L Δ Δ (kk2 (okR x ∧ okR y) ((Δ.2.1 (rI x)) = (Δ.2.1 (rI y)))) (fun b => b = nI (sg (Δ.2.1 (rI x)) (fun i => (Δ.2.2 (rI x)) i * (Δ.2.2 (rI y)) (ix (Δ.2.1 (rI x)) (if z = 0 then (i : Int) else -(i : Int))))).val) r w) := by
  refine gM.of (cc := cX2_sum) (maxL := 7) (ret := (some .int)) (own := RX2) (by decide) rfl rfl (Nat.le_of_ble_eq_true rfl) rfl ?_
  intro p e s m args below meth c A Q hC hr hnm hQ
  have hin2 : ∀ w ∈ u_ws RX2 TX2 6, w ∈ wsX2_sum := by decide +kernel
  have hl11 : Cond.fieldLink RX2 11 "RootrowsModel" "numbers" "[[I" ∈ wsX2_sum := by decide +kernel
  have hl14 : Cond.fieldLink RX2 14 "RootrowsModel" "lengths" "[I" ∈ wsX2_sum := by decide +kernel
  refine gAloadN (pc := 0) hC dX2_sum_0 rfl 0 rfl ?_
  refine gIloadN (pc := 1) hC dX2_sum_1 rfl 1 rfl ?_
  refine gIloadN (pc := 2) hC dX2_sum_2 rfl 2 rfl ?_
  refine gV (pc := 3) (rest := []) (ci := 2) (q0 := 0) hC (c_X2_lacksTwo l D L μ x y) rfl rfl (cwV 2 hC.2.2.2.2.1 gX2_sum_X2_lacksTwo rfl rfl rfl (by decide +kernel) ⟨Nat.le_of_ble_eq_true rfl, Nat.le_of_ble_eq_true rfl⟩) rfl rfl (Nat.le_of_ble_eq_true rfl) dX2_sum_3 ⟨Nat.le_of_ble_eq_true rfl, Nat.le_of_ble_eq_true rfl⟩ (fun v w1 hp => ?_)
  obtain ⟨rfl, rfl⟩ := hp
  refine gStk (st' := [.int (bI (¬ (okR x ∧ okR y)))]) (pc' := 6) rfl rfl ?_
  refine gIf_ne (pc := 6) hC (tgt := 37) dX2_sum_6 (by decide) (fun hc1 => ?_) (fun hc1 => ?_)
  · skip
    have nok : ¬ (okR x ∧ okR y) := bI_n.mp hc1
    refine gIconst (pc := 37) hC (v := (nI 0)) dX2_sum_37 (by decide +kernel) ?_
    exact gRetI hC hQ hr (Nat.le_of_ble_eq_true rfl) (Nat.le_of_ble_eq_true rfl) dX2_sum_38 (⟨_, rfl, _, rfl, by rw [kk2_1 nok]; exact thr_f nok, Or.inr ⟨kne (kk2_1 nok) ne1, hR⟩⟩)
  · skip
    have ok : (okR x ∧ okR y) := nn (bI_0.mp hc1)
    obtain ⟨hi, ei⟩ := ok.1.get
    obtain ⟨hi2, ei2⟩ := ok.2.get
    have hle := hR.len hi
    have hle2 := hR.len hi2
    refine gAloadN (pc := 9) hC dX2_sum_9 rfl 0 rfl ?_
    refine gAloadN (pc := 10) hC dX2_sum_10 rfl 0 rfl ?_
    refine mGetArr (pc := 11) hC 1 (a := (kl L)) (by decide) ⟨rfl, rfl, rfl⟩ hin2 hl14 dX2_sum_11 ?_
    refine gIloadN (pc := 14) hC dX2_sum_14 rfl 1 rfl ?_
    refine mLenLd (pc := 15) hC (v := (nI (Δ.2.1 (rI x)))) (rI x) (ei) (hi) (hle) dX2_sum_15 ?_
    refine gAloadN (pc := 16) hC dX2_sum_16 rfl 0 rfl ?_
    refine mGetArr (pc := 17) hC 1 (a := (kl L)) (by decide) ⟨rfl, rfl, rfl⟩ hin2 hl14 dX2_sum_17 ?_
    refine gIloadN (pc := 20) hC dX2_sum_20 rfl 2 rfl ?_
    refine mLenLd (pc := 21) hC (v := (nI (Δ.2.1 (rI y)))) (rI y) (ei2) (hi2) (hle2) dX2_sum_21 ?_
    refine gIcmp_ne (pc := 22) hC (tgt := 29) dX2_sum_22 (by decide) (fun hc2 => ?_) (fun hc2 => ?_)
    · skip
      have noka : ¬ ((Δ.2.1 (rI x)) = (Δ.2.1 (rI y))) := fun q => hc2 ((len_eq hR hi hi2).mpr q)
      refine gIconst (pc := 29) hC (v := (nI 0)) dX2_sum_29 (by decide +kernel) ?_
      refine gStk (st' := [.int (bI ((Δ.2.1 (rI x)) = (Δ.2.1 (rI y)))), .ref (kx L)]) (pc' := 30) (by rw [bI_f noka]) rfl ?_
      refine gIconst (pc := 30) hC (v := (nI 2)) dX2_sum_30 (by decide +kernel) ?_
      refine gV (pc := 31) (rest := []) (ci := 2) (q0 := 0) hC (c_X2_no l D L (mTh μ (if (okR x ∧ okR y) then nI 0 else nI 1)) ((Δ.2.1 (rI x)) = (Δ.2.1 (rI y))) (nI 2)) rfl rfl (cwV 2 hC.2.2.2.2.1 gX2_sum_X2_no rfl rfl rfl (by decide +kernel) ⟨Nat.le_of_ble_eq_true rfl, Nat.le_of_ble_eq_true rfl⟩) rfl rfl (Nat.le_of_ble_eq_true rfl) dX2_sum_31 ⟨Nat.le_of_ble_eq_true rfl, Nat.le_of_ble_eq_true rfl⟩ (fun v w1 hp => ?_)
      obtain ⟨rfl, rfl⟩ := hp
      refine gStk (st' := [.int (bI (¬ ((Δ.2.1 (rI x)) = (Δ.2.1 (rI y)))))]) (pc' := 34) rfl rfl ?_
      refine gIf_eq (pc := 34) hC (tgt := 39) dX2_sum_34 (by decide) (fun hc3 => absurd hc3 (bI_n.mpr noka)) (fun hc3 => ?_)
      refine gIconst (pc := 37) hC (v := (nI 0)) dX2_sum_37 (by decide +kernel) ?_
      exact gRetI hC hQ hr (Nat.le_of_ble_eq_true rfl) (Nat.le_of_ble_eq_true rfl) dX2_sum_38 (⟨_, rfl, _, rfl, by rw [kk2_2 ok noka]; exact thr_f noka, Or.inr ⟨kne (kk2_2 ok noka) ne2, hR⟩⟩)
    · skip
      have oka : ((Δ.2.1 (rI x)) = (Δ.2.1 (rI y))) := (len_eq hR hi hi2).mp hc2
      refine gIconst (pc := 25) hC (v := (nI 1)) dX2_sum_25 (by decide +kernel) ?_
      refine gGoto (pc := 26) hC (tgt := 30) dX2_sum_26 (by decide) ?_
      refine gStk (st' := [.int (bI ((Δ.2.1 (rI x)) = (Δ.2.1 (rI y)))), .ref (kx L)]) (pc' := 30) (by rw [bI_t oka]) rfl ?_
      refine gIconst (pc := 30) hC (v := (nI 2)) dX2_sum_30 (by decide +kernel) ?_
      refine gV (pc := 31) (rest := []) (ci := 2) (q0 := 0) hC (c_X2_no l D L (mTh μ (if (okR x ∧ okR y) then nI 0 else nI 1)) ((Δ.2.1 (rI x)) = (Δ.2.1 (rI y))) (nI 2)) rfl rfl (cwV 2 hC.2.2.2.2.1 gX2_sum_X2_no rfl rfl rfl (by decide +kernel) ⟨Nat.le_of_ble_eq_true rfl, Nat.le_of_ble_eq_true rfl⟩) rfl rfl (Nat.le_of_ble_eq_true rfl) dX2_sum_31 ⟨Nat.le_of_ble_eq_true rfl, Nat.le_of_ble_eq_true rfl⟩ (fun v w1 hp => ?_)
      obtain ⟨rfl, rfl⟩ := hp
      refine gStk (st' := [.int (bI (¬ ((Δ.2.1 (rI x)) = (Δ.2.1 (rI y)))))]) (pc' := 34) rfl rfl ?_
      refine gIf_eq (pc := 34) hC (tgt := 39) dX2_sum_34 (by decide) (fun hc4 => ?_) (fun hc4 => absurd (bI_0.mpr (fun q => q oka)) hc4)
      obtain ⟨ν5, eν5, hRν5, htν5⟩ : ∃ ζ : mSt, ζ = (mTh μ (if ((Δ.2.1 (rI x)) = (Δ.2.1 (rI y))) then nI 0 else nI 2)) ∧ mRel ζ Δ ∧ mt ζ = nI (kk2 (okR x ∧ okR y) ((Δ.2.1 (rI x)) = (Δ.2.1 (rI y)))) := ⟨_, rfl, hR, (by rw [kk2_0 ok oka]; exact thr_t oka)⟩
      refine gWs (ws' := WM L ν5) (by first | (rw [eν5]; done) | (rw [eν5]; rfl)) ?_
      obtain ⟨hi, ei⟩ := ok.1.get
      have hl_ := hRν5.okl hi
      have hle := hRν5.len hi
      have hF := hRν5.is hi
      have hz := hRν5.zer hi
      have hN := hl_.N
      have hL := hN.le
      have hp := hN.pos
      have hx6 : Value.int x = Value.int (nI (rI x)) := congrArg Value.int ei
      refine gLocE (lv' := [(0, .ref (kx L)), (1, .int (nI (rI x))), (2, .int y), (3, .int z)]) (by first | (rw [← hx6]; done) | (rw [← hx6]; rfl)) ?_
      obtain ⟨hi2, ei2⟩ := ok.2.get
      have hl2_ := hRν5.okl hi2
      have hle2 := hRν5.len hi2
      have hF2 := hRν5.is hi2
      have hz2 := hRν5.zer hi2
      have hN2 := hl2_.N
      have hL2 := hN2.le
      have hp2 := hN2.pos
      have hx7 : Value.int y = Value.int (nI (rI y)) := congrArg Value.int ei2
      refine gLocE (lv' := [(0, .ref (kx L)), (1, .int (nI (rI x))), (2, .int (nI (rI y))), (3, .int z)]) (by first | (rw [← hx7]; done) | (rw [← hx7]; rfl)) ?_
      have hG : mIs ν5 (rI y) (Δ.2.1 (rI x)) (Δ.2.2 (rI y)) := by rw [oka]; exact hF2
      refine gAloadN (pc := 39) hC dX2_sum_39 rfl 0 rfl ?_
      refine mGetArr (pc := 40) hC 1 (a := (kl L)) (by decide) ⟨rfl, rfl, rfl⟩ hin2 hl14 dX2_sum_40 ?_
      refine gIloadN (pc := 43) hC dX2_sum_43 rfl 1 rfl ?_
      refine mLenLd (pc := 44) hC (v := (nI (Δ.2.1 (rI x)))) (rI x) (rfl) (hi) (hle) dX2_sum_44 ?_
      refine gIstore (pc := 45) hC (lv' := [(4, .int (nI (Δ.2.1 (rI x)))), (0, .ref (kx L)), (1, .int (nI (rI x))), (2, .int (nI (rI y))), (3, .int z)]) dX2_sum_45 (by decide) rfl ?_
      refine gIconst (pc := 47) hC (v := (nI 0)) dX2_sum_47 (by decide +kernel) ?_
      refine gIstore (pc := 48) hC (lv' := [(5, .int (nI 0)), (4, .int (nI (Δ.2.1 (rI x)))), (0, .ref (kx L)), (1, .int (nI (rI x))), (2, .int (nI (rI y))), (3, .int z)]) dX2_sum_48 (by decide) rfl ?_
      refine gIconst (pc := 50) hC (v := (nI 0)) dX2_sum_50 (by decide +kernel) ?_
      refine gIstore (pc := 51) hC (lv' := [(6, .int (nI 0)), (5, .int (nI 0)), (4, .int (nI (Δ.2.1 (rI x)))), (0, .ref (kx L)), (1, .int (nI (rI x))), (2, .int (nI (rI y))), (3, .int z)]) dX2_sum_51 (by decide) rfl ?_
      refine gLoc (lv' := [(6, .int (nI 0)), (5, .int (nI 0)), (4, .int (nI (Δ.2.1 (rI x)))), (0, .ref (kx L)), (1, .int (nI (rI x))), (2, .int (nI (rI y))), (3, .int z)]) [0, 1, 2, 3, 4, 5, 6] rfl ?_
      refine loopUp (S := Int32) (fun i ζ => gG p l e rmX2_sum s m args below meth c D A 7 0 0 Q (WM L ν5) 53 [(6, .int (nI i)), (5, .int ζ), (4, .int (nI (Δ.2.1 (rI x)))), (0, .ref (kx L)), (1, .int (nI (rI x))), (2, .int (nI (rI y))), (3, .int z)] []) (fun i ζ => ζ = nI (sg i (fun i => (Δ.2.2 (rI x)) i * (Δ.2.2 (rI y)) (ix (Δ.2.1 (rI x)) (if z = 0 then (i : Int) else -(i : Int))))).val) (Δ.2.1 (rI x)) ?_ ?_ 0 ((nI 0)) (by omega) (rfl)
      · intro ζ hI
        revert hI; generalize ζ = c1; intro hI
        refine gIload (pc := 53) hC dX2_sum_53 0 rfl ?_
        refine gIload (pc := 55) hC dX2_sum_55 2 rfl ?_
        refine gIcmp_ge (pc := 57) hC (tgt := 109) dX2_sum_57 (by decide) (fun hc8 => ?_) (fun hc8 => absurd (nI_le (Nat.le_refl _) (by omega)) hc8)
        refine gIload (pc := 109) hC dX2_sum_109 1 rfl ?_
        exact gRetI hC hQ hr (Nat.le_of_ble_eq_true rfl) (Nat.le_of_ble_eq_true rfl) dX2_sum_111 (⟨_, rfl, _, rfl, htν5, Or.inl ⟨(kk2_0 ok oka), by rw [hI], hRν5⟩⟩)
      · intro i ζ hi9 hI ih
        revert hI; generalize ζ = c1; intro hI
        refine gIload (pc := 53) hC dX2_sum_53 0 rfl ?_
        refine gIload (pc := 55) hC dX2_sum_55 2 rfl ?_
        refine gIcmp_ge (pc := 57) hC (tgt := 109) dX2_sum_57 (by decide) (fun hc9 => absurd hc9 (nI_ge hi9 (by omega))) (fun hc9 => ?_)
        refine gAloadN (pc := 60) hC dX2_sum_60 rfl 3 rfl ?_
        refine mGetArr (pc := 61) hC 0 (a := (kn L)) (by decide) ⟨rfl, rfl, rfl⟩ hin2 hl11 dX2_sum_61 ?_
        refine gIloadN (pc := 64) hC dX2_sum_64 rfl 4 rfl ?_
        refine mRowAld (pc := 65) hC (rI x) (rfl) (hi) dX2_sum_65 ?_
        refine gIload (pc := 66) hC dX2_sum_66 0 rfl ?_
        refine mNumLd (pc := 68) hC (K := (rI x)) (v := (nI ((Δ.2.2 (rI x)) i).val)) (by omega) i (rfl) (by omega) (hF _ (by omega)) dX2_sum_68 ?_
        refine gI2l (pc := 69) hC (v := (lN ((Δ.2.2 (rI x)) i).val)) dX2_sum_69 (nI_l (by have := ((Δ.2.2 (rI x)) i).isLt; omega)) ?_
        refine gAloadN (pc := 70) hC dX2_sum_70 rfl 3 rfl ?_
        refine mGetArr (pc := 71) hC 0 (a := (kn L)) (by decide) ⟨rfl, rfl, rfl⟩ hin2 hl11 dX2_sum_71 ?_
        refine gIloadN (pc := 74) hC dX2_sum_74 rfl 5 rfl ?_
        refine mRowAld (pc := 75) hC (rI y) (rfl) (hi2) dX2_sum_75 ?_
        refine gIloadN (pc := 76) hC dX2_sum_76 rfl 6 rfl ?_
        refine gIf_eq (pc := 77) hC (tgt := 92) dX2_sum_77 (by decide) (fun hc10 => ?_) (fun hc10 => ?_)
        · skip
          have hz9 : (if z = 0 then (i : Int) else -(i : Int)) = (i : Int) := if_pos hc10
          have hx := ix_lt hp (i : Int)
          refine gIload (pc := 92) hC dX2_sum_92 0 rfl ?_
          refine mNumLd (pc := 94) hC (K := (rI y)) (v := (nI ((Δ.2.2 (rI y)) (ix (Δ.2.1 (rI x)) (i : Int))).val)) (by omega) i (rfl) (by omega) (by rw [ix_of hi9]; exact hG _ hi9) dX2_sum_94 ?_
          refine gI2l (pc := 95) hC (v := (lN ((Δ.2.2 (rI y)) (ix (Δ.2.1 (rI x)) (i : Int))).val)) dX2_sum_95 (nI_l (by have := ((Δ.2.2 (rI y)) (ix (Δ.2.1 (rI x)) (i : Int))).isLt; omega)) ?_
          refine gIload (pc := 96) hC dX2_sum_96 1 rfl ?_
          refine gS (pc := 98) (rest := []) hC (c_X2_product l D _ _ _ _ _ ((Δ.2.2 (rI x)) i) ((Δ.2.2 (rI y)) (ix (Δ.2.1 (rI x)) (i : Int))) (sg i (fun i => (Δ.2.2 (rI x)) i * (Δ.2.2 (rI y)) (ix (Δ.2.1 (rI x)) (if z = 0 then (i : Int) else -(i : Int))))) rfl rfl hI) (va_cwS 3 hC.2.2.2.2.1 gX2_sum_X2_product rfl rfl rfl (by decide +kernel) ⟨Nat.le_of_ble_eq_true rfl, Nat.le_of_ble_eq_true rfl⟩) rfl rfl (Nat.le_of_ble_eq_true rfl) dX2_sum_98 ⟨Nat.le_of_ble_eq_true rfl, Nat.le_of_ble_eq_true rfl⟩ (fun v w1 hp => ?_)
          obtain ⟨rfl, rfl⟩ := hp
          refine gStk (st' := [.int (nI ((Δ.2.2 (rI x)) i * (Δ.2.2 (rI y)) (ix (Δ.2.1 (rI x)) (i : Int)) + sg i (fun i => (Δ.2.2 (rI x)) i * (Δ.2.2 (rI y)) (ix (Δ.2.1 (rI x)) (if z = 0 then (i : Int) else -(i : Int))))).val)]) (pc' := 101) rfl rfl ?_
          refine gIstore (pc := 101) hC (lv' := [(5, .int (nI ((Δ.2.2 (rI x)) i * (Δ.2.2 (rI y)) (ix (Δ.2.1 (rI x)) (i : Int)) + sg i (fun i => (Δ.2.2 (rI x)) i * (Δ.2.2 (rI y)) (ix (Δ.2.1 (rI x)) (if z = 0 then (i : Int) else -(i : Int))))).val)), (6, .int (nI i)), (4, .int (nI (Δ.2.1 (rI x)))), (0, .ref (kx L)), (1, .int (nI (rI x))), (2, .int (nI (rI y))), (3, .int z)]) dX2_sum_101 (by decide) rfl ?_
          refine gIinc (pc := 103) hC (v := (nI (i + 1))) (lv' := [(6, .int (nI (i + 1))), (5, .int (nI ((Δ.2.2 (rI x)) i * (Δ.2.2 (rI y)) (ix (Δ.2.1 (rI x)) (i : Int)) + sg i (fun i => (Δ.2.2 (rI x)) i * (Δ.2.2 (rI y)) (ix (Δ.2.1 (rI x)) (if z = 0 then (i : Int) else -(i : Int))))).val)), (4, .int (nI (Δ.2.1 (rI x)))), (0, .ref (kx L)), (1, .int (nI (rI x))), (2, .int (nI (rI y))), (3, .int z)]) dX2_sum_103 (q := 1) rfl (nI_1 _) (by decide) rfl ?_
          refine gGoto (pc := 106) hC (tgt := 53) dX2_sum_106 (by decide) ?_
          refine gLoc (lv' := [(6, .int (nI (i + 1))), (5, .int (nI ((Δ.2.2 (rI x)) i * (Δ.2.2 (rI y)) (ix (Δ.2.1 (rI x)) (i : Int)) + sg i (fun i => (Δ.2.2 (rI x)) i * (Δ.2.2 (rI y)) (ix (Δ.2.1 (rI x)) (if z = 0 then (i : Int) else -(i : Int))))).val)), (4, .int (nI (Δ.2.1 (rI x)))), (0, .ref (kx L)), (1, .int (nI (rI x))), (2, .int (nI (rI y))), (3, .int z)]) [0, 1, 2, 3, 4, 5, 6] rfl ?_
          exact ih ((nI ((Δ.2.2 (rI x)) i * (Δ.2.2 (rI y)) (ix (Δ.2.1 (rI x)) (i : Int)) + sg i (fun i => (Δ.2.2 (rI x)) i * (Δ.2.2 (rI y)) (ix (Δ.2.1 (rI x)) (if z = 0 then (i : Int) else -(i : Int))))).val)) (by rw [sg_s, hz9, fr_ac])
        · skip
          have hz9 : (if z = 0 then (i : Int) else -(i : Int)) = (-(i : Int)) := if_neg hc10
          have hx := ix_lt hp (-(i : Int))
          refine gIload (pc := 80) hC dX2_sum_80 0 rfl ?_
          refine gIneg (pc := 82) hC dX2_sum_82 rfl ?_
          refine gI2l (pc := 83) hC dX2_sum_83 rfl ?_
          refine gIload (pc := 84) hC dX2_sum_84 2 rfl ?_
          refine gS (pc := 86) (rest := [.ref (ka L (rI y)), .long (lN ((Δ.2.2 (rI x)) i).val)]) hC (c_X2_left l D _ _ _ (Δ.2.1 (rI x)) (-(i : Int)) hN (by rw [i64_of]; exact m_negI (by omega))) (va_cwS 2 hC.2.2.2.2.1 gX2_sum_X2_left rfl rfl rfl (by decide +kernel) ⟨Nat.le_of_ble_eq_true rfl, Nat.le_of_ble_eq_true rfl⟩) rfl rfl (Nat.le_of_ble_eq_true rfl) dX2_sum_86 ⟨Nat.le_of_ble_eq_true rfl, Nat.le_of_ble_eq_true rfl⟩ (fun v w1 hp => ?_)
          obtain ⟨rfl, rfl⟩ := hp
          refine gStk (st' := [.int (nI (ix (Δ.2.1 (rI x)) (-(i : Int)))), .ref (ka L (rI y)), .long (lN ((Δ.2.2 (rI x)) i).val)]) (pc' := 89) rfl rfl ?_
          refine gGoto (pc := 89) hC (tgt := 94) dX2_sum_89 (by decide) ?_
          refine mNumLd (pc := 94) hC (K := (rI y)) (v := (nI ((Δ.2.2 (rI y)) (ix (Δ.2.1 (rI x)) (-(i : Int)))).val)) (by omega) (ix (Δ.2.1 (rI x)) (-(i : Int))) (rfl) (by omega) (hG _ hx) dX2_sum_94 ?_
          refine gI2l (pc := 95) hC (v := (lN ((Δ.2.2 (rI y)) (ix (Δ.2.1 (rI x)) (-(i : Int)))).val)) dX2_sum_95 (nI_l (by have := ((Δ.2.2 (rI y)) (ix (Δ.2.1 (rI x)) (-(i : Int)))).isLt; omega)) ?_
          refine gIload (pc := 96) hC dX2_sum_96 1 rfl ?_
          refine gS (pc := 98) (rest := []) hC (c_X2_product l D _ _ _ _ _ ((Δ.2.2 (rI x)) i) ((Δ.2.2 (rI y)) (ix (Δ.2.1 (rI x)) (-(i : Int)))) (sg i (fun i => (Δ.2.2 (rI x)) i * (Δ.2.2 (rI y)) (ix (Δ.2.1 (rI x)) (if z = 0 then (i : Int) else -(i : Int))))) rfl rfl hI) (va_cwS 3 hC.2.2.2.2.1 gX2_sum_X2_product rfl rfl rfl (by decide +kernel) ⟨Nat.le_of_ble_eq_true rfl, Nat.le_of_ble_eq_true rfl⟩) rfl rfl (Nat.le_of_ble_eq_true rfl) dX2_sum_98 ⟨Nat.le_of_ble_eq_true rfl, Nat.le_of_ble_eq_true rfl⟩ (fun v w1 hp => ?_)
          obtain ⟨rfl, rfl⟩ := hp
          refine gStk (st' := [.int (nI ((Δ.2.2 (rI x)) i * (Δ.2.2 (rI y)) (ix (Δ.2.1 (rI x)) (-(i : Int))) + sg i (fun i => (Δ.2.2 (rI x)) i * (Δ.2.2 (rI y)) (ix (Δ.2.1 (rI x)) (if z = 0 then (i : Int) else -(i : Int))))).val)]) (pc' := 101) rfl rfl ?_
          refine gIstore (pc := 101) hC (lv' := [(5, .int (nI ((Δ.2.2 (rI x)) i * (Δ.2.2 (rI y)) (ix (Δ.2.1 (rI x)) (-(i : Int))) + sg i (fun i => (Δ.2.2 (rI x)) i * (Δ.2.2 (rI y)) (ix (Δ.2.1 (rI x)) (if z = 0 then (i : Int) else -(i : Int))))).val)), (6, .int (nI i)), (4, .int (nI (Δ.2.1 (rI x)))), (0, .ref (kx L)), (1, .int (nI (rI x))), (2, .int (nI (rI y))), (3, .int z)]) dX2_sum_101 (by decide) rfl ?_
          refine gIinc (pc := 103) hC (v := (nI (i + 1))) (lv' := [(6, .int (nI (i + 1))), (5, .int (nI ((Δ.2.2 (rI x)) i * (Δ.2.2 (rI y)) (ix (Δ.2.1 (rI x)) (-(i : Int))) + sg i (fun i => (Δ.2.2 (rI x)) i * (Δ.2.2 (rI y)) (ix (Δ.2.1 (rI x)) (if z = 0 then (i : Int) else -(i : Int))))).val)), (4, .int (nI (Δ.2.1 (rI x)))), (0, .ref (kx L)), (1, .int (nI (rI x))), (2, .int (nI (rI y))), (3, .int z)]) dX2_sum_103 (q := 1) rfl (nI_1 _) (by decide) rfl ?_
          refine gGoto (pc := 106) hC (tgt := 53) dX2_sum_106 (by decide) ?_
          refine gLoc (lv' := [(6, .int (nI (i + 1))), (5, .int (nI ((Δ.2.2 (rI x)) i * (Δ.2.2 (rI y)) (ix (Δ.2.1 (rI x)) (-(i : Int))) + sg i (fun i => (Δ.2.2 (rI x)) i * (Δ.2.2 (rI y)) (ix (Δ.2.1 (rI x)) (if z = 0 then (i : Int) else -(i : Int))))).val)), (4, .int (nI (Δ.2.1 (rI x)))), (0, .ref (kx L)), (1, .int (nI (rI x))), (2, .int (nI (rI y))), (3, .int z)]) [0, 1, 2, 3, 4, 5, 6] rfl ?_
          exact ih ((nI ((Δ.2.2 (rI x)) i * (Δ.2.2 (rI y)) (ix (Δ.2.1 (rI x)) (-(i : Int))) + sg i (fun i => (Δ.2.2 (rI x)) i * (Δ.2.2 (rI y)) (ix (Δ.2.1 (rI x)) (if z = 0 then (i : Int) else -(i : Int))))).val)) (by rw [sg_s, hz9, fr_ac])

abbrev rmX2_isSum : Room := { frames := 2, cells := 0, slots := 0, locals := 44 }
set_option maxRecDepth 100000 in
set_option maxHeartbeats 4000000 in
theorem c_X2_isSum (l : Launch) (D : va_G) (L : mLay) (μ : mSt) (Δ : dSt) (x : Int32) (y : Int32) (z : Int32) (hR : mRel μ Δ) : gM l yX2_isSum wsX2_isSum rmX2_isSum D (mTy L) (WM L μ) [.ref (kx L), .int x, .int y, .int z] 0 0 (fun r w => mPost L Δ Δ (kk3 (okR x ∧ okR y) (okNum z) ((Δ.2.1 (rI x)) = (Δ.2.1 (rI y)))) (fun b => b = nI 1) r w) := by
  refine gM.of (cc := cX2_isSum) (maxL := 4) (ret := (some .boolean)) (own := RX2) (by decide) rfl rfl (Nat.le_of_ble_eq_true rfl) rfl ?_
  intro p e s m args below meth c A Q hC hr hnm hQ
  have hin2 : ∀ w ∈ u_ws RX2 TX2 6, w ∈ wsX2_isSum := by decide +kernel
  have hl14 : Cond.fieldLink RX2 14 "RootrowsModel" "lengths" "[I" ∈ wsX2_isSum := by decide +kernel
  refine gAloadN (pc := 0) hC dX2_isSum_0 rfl 0 rfl ?_
  refine gIloadN (pc := 1) hC dX2_isSum_1 rfl 1 rfl ?_
  refine gIloadN (pc := 2) hC dX2_isSum_2 rfl 2 rfl ?_
  refine gV (pc := 3) (rest := []) (ci := 2) (q0 := 0) hC (c_X2_lacksTwo l D L μ x y) rfl rfl (cwV 2 hC.2.2.2.2.1 gX2_isSum_X2_lacksTwo rfl rfl rfl (by decide +kernel) ⟨Nat.le_of_ble_eq_true rfl, Nat.le_of_ble_eq_true rfl⟩) rfl rfl (Nat.le_of_ble_eq_true rfl) dX2_isSum_3 ⟨Nat.le_of_ble_eq_true rfl, Nat.le_of_ble_eq_true rfl⟩ (fun v w1 hp => ?_)
  obtain ⟨rfl, rfl⟩ := hp
  refine gStk (st' := [.int (bI (¬ (okR x ∧ okR y)))]) (pc' := 6) rfl rfl ?_
  refine gIf_ne (pc := 6) hC (tgt := 56) dX2_isSum_6 (by decide) (fun hc1 => ?_) (fun hc1 => ?_)
  · skip
    have nok : ¬ (okR x ∧ okR y) := bI_n.mp hc1
    refine gIconst (pc := 56) hC (v := (nI 0)) dX2_isSum_56 (by decide +kernel) ?_
    exact gRetZ hC hQ hr (by first | rfl | exact bI_ret) (Nat.le_of_ble_eq_true rfl) (Nat.le_of_ble_eq_true rfl) dX2_isSum_57 (⟨_, rfl, _, rfl, by rw [kk3_1 nok]; exact thr_f nok, Or.inr ⟨kne (kk3_1 nok) ne1, hR⟩⟩)
  · skip
    have ok : (okR x ∧ okR y) := nn (bI_0.mp hc1)
    refine gAloadN (pc := 9) hC dX2_isSum_9 rfl 0 rfl ?_
    refine gIloadN (pc := 10) hC dX2_isSum_10 rfl 3 rfl ?_
    refine gIconst (pc := 11) hC (v := (nI 0)) dX2_isSum_11 (by decide +kernel) ?_
    refine gLdc (pc := 12) hC (v := 65536) dX2_isSum_12 (by decide +kernel) ?_
    refine gS (pc := 14) (rest := [.ref (kx L)]) hC (c_X2_in l D _ _ z (nI 0) (nI 65536)) (va_cwS 3 hC.2.2.2.2.1 gX2_isSum_X2_in rfl rfl rfl (by decide +kernel) ⟨Nat.le_of_ble_eq_true rfl, Nat.le_of_ble_eq_true rfl⟩) rfl rfl (Nat.le_of_ble_eq_true rfl) dX2_isSum_14 ⟨Nat.le_of_ble_eq_true rfl, Nat.le_of_ble_eq_true rfl⟩ (fun v w1 hp => ?_)
    obtain ⟨rfl, rfl⟩ := hp
    rw [bI_c m_num]
    refine gStk (st' := [.int (bI (okNum z)), .ref (kx L)]) (pc' := 17) rfl rfl ?_
    refine gIconst (pc := 17) hC (v := (nI 2)) dX2_isSum_17 (by decide +kernel) ?_
    refine gV (pc := 18) (rest := []) (ci := 2) (q0 := 0) hC (c_X2_no l D L (mTh μ (if (okR x ∧ okR y) then nI 0 else nI 1)) (okNum z) (nI 2)) rfl rfl (cwV 2 hC.2.2.2.2.1 gX2_isSum_X2_no rfl rfl rfl (by decide +kernel) ⟨Nat.le_of_ble_eq_true rfl, Nat.le_of_ble_eq_true rfl⟩) rfl rfl (Nat.le_of_ble_eq_true rfl) dX2_isSum_18 ⟨Nat.le_of_ble_eq_true rfl, Nat.le_of_ble_eq_true rfl⟩ (fun v w1 hp => ?_)
    obtain ⟨rfl, rfl⟩ := hp
    refine gStk (st' := [.int (bI (¬ (okNum z)))]) (pc' := 21) rfl rfl ?_
    refine gIf_ne (pc := 21) hC (tgt := 56) dX2_isSum_21 (by decide) (fun hc2 => ?_) (fun hc2 => ?_)
    · skip
      have nok2 : ¬ (okNum z) := bI_n.mp hc2
      refine gIconst (pc := 56) hC (v := (nI 0)) dX2_isSum_56 (by decide +kernel) ?_
      exact gRetZ hC hQ hr (by first | rfl | exact bI_ret) (Nat.le_of_ble_eq_true rfl) (Nat.le_of_ble_eq_true rfl) dX2_isSum_57 (⟨_, rfl, _, rfl, by rw [kk3_2 ok nok2]; exact thr_f nok2, Or.inr ⟨kne (kk3_2 ok nok2) ne2, hR⟩⟩)
    · skip
      have ok2 : okNum z := nn (bI_0.mp hc2)
      obtain ⟨hi, ei⟩ := ok.1.get
      obtain ⟨hi2, ei2⟩ := ok.2.get
      have hle := hR.len hi
      have hle2 := hR.len hi2
      refine gAloadN (pc := 24) hC dX2_isSum_24 rfl 0 rfl ?_
      refine gAloadN (pc := 25) hC dX2_isSum_25 rfl 0 rfl ?_
      refine mGetArr (pc := 26) hC 1 (a := (kl L)) (by decide) ⟨rfl, rfl, rfl⟩ hin2 hl14 dX2_isSum_26 ?_
      refine gIloadN (pc := 29) hC dX2_isSum_29 rfl 1 rfl ?_
      refine mLenLd (pc := 30) hC (v := (nI (Δ.2.1 (rI x)))) (rI x) (ei) (hi) (hle) dX2_isSum_30 ?_
      refine gAloadN (pc := 31) hC dX2_isSum_31 rfl 0 rfl ?_
      refine mGetArr (pc := 32) hC 1 (a := (kl L)) (by decide) ⟨rfl, rfl, rfl⟩ hin2 hl14 dX2_isSum_32 ?_
      refine gIloadN (pc := 35) hC dX2_isSum_35 rfl 2 rfl ?_
      refine mLenLd (pc := 36) hC (v := (nI (Δ.2.1 (rI y)))) (rI y) (ei2) (hi2) (hle2) dX2_isSum_36 ?_
      refine gIcmp_ne (pc := 37) hC (tgt := 44) dX2_isSum_37 (by decide) (fun hc3 => ?_) (fun hc3 => ?_)
      · skip
        have noka : ¬ ((Δ.2.1 (rI x)) = (Δ.2.1 (rI y))) := fun q => hc3 ((len_eq hR hi hi2).mpr q)
        refine gIconst (pc := 44) hC (v := (nI 0)) dX2_isSum_44 (by decide +kernel) ?_
        refine gStk (st' := [.int (bI ((Δ.2.1 (rI x)) = (Δ.2.1 (rI y)))), .ref (kx L)]) (pc' := 45) (by rw [bI_f noka]) rfl ?_
        refine gIconst (pc := 45) hC (v := (nI 3)) dX2_isSum_45 (by decide +kernel) ?_
        refine gV (pc := 46) (rest := []) (ci := 2) (q0 := 0) hC (c_X2_no l D L (mTh μ (if okNum z then nI 0 else nI 2)) ((Δ.2.1 (rI x)) = (Δ.2.1 (rI y))) (nI 3)) rfl rfl (cwV 2 hC.2.2.2.2.1 gX2_isSum_X2_no rfl rfl rfl (by decide +kernel) ⟨Nat.le_of_ble_eq_true rfl, Nat.le_of_ble_eq_true rfl⟩) rfl rfl (Nat.le_of_ble_eq_true rfl) dX2_isSum_46 ⟨Nat.le_of_ble_eq_true rfl, Nat.le_of_ble_eq_true rfl⟩ (fun v w1 hp => ?_)
        obtain ⟨rfl, rfl⟩ := hp
        refine gStk (st' := [.int (bI (¬ ((Δ.2.1 (rI x)) = (Δ.2.1 (rI y)))))]) (pc' := 49) rfl rfl ?_
        refine gIf_ne (pc := 49) hC (tgt := 56) dX2_isSum_49 (by decide) (fun hc4 => ?_) (fun hc4 => absurd hc4 (bI_n.mpr noka))
        refine gIconst (pc := 56) hC (v := (nI 0)) dX2_isSum_56 (by decide +kernel) ?_
        exact gRetZ hC hQ hr (by first | rfl | exact bI_ret) (Nat.le_of_ble_eq_true rfl) (Nat.le_of_ble_eq_true rfl) dX2_isSum_57 (⟨_, rfl, _, rfl, by rw [kk3_3 ok ok2 noka]; exact thr_f noka, Or.inr ⟨kne (kk3_3 ok ok2 noka) ne3, hR⟩⟩)
      · skip
        have oka : ((Δ.2.1 (rI x)) = (Δ.2.1 (rI y))) := (len_eq hR hi hi2).mp hc3
        refine gIconst (pc := 40) hC (v := (nI 1)) dX2_isSum_40 (by decide +kernel) ?_
        refine gGoto (pc := 41) hC (tgt := 45) dX2_isSum_41 (by decide) ?_
        refine gStk (st' := [.int (bI ((Δ.2.1 (rI x)) = (Δ.2.1 (rI y)))), .ref (kx L)]) (pc' := 45) (by rw [bI_t oka]) rfl ?_
        refine gIconst (pc := 45) hC (v := (nI 3)) dX2_isSum_45 (by decide +kernel) ?_
        refine gV (pc := 46) (rest := []) (ci := 2) (q0 := 0) hC (c_X2_no l D L (mTh μ (if okNum z then nI 0 else nI 2)) ((Δ.2.1 (rI x)) = (Δ.2.1 (rI y))) (nI 3)) rfl rfl (cwV 2 hC.2.2.2.2.1 gX2_isSum_X2_no rfl rfl rfl (by decide +kernel) ⟨Nat.le_of_ble_eq_true rfl, Nat.le_of_ble_eq_true rfl⟩) rfl rfl (Nat.le_of_ble_eq_true rfl) dX2_isSum_46 ⟨Nat.le_of_ble_eq_true rfl, Nat.le_of_ble_eq_true rfl⟩ (fun v w1 hp => ?_)
        obtain ⟨rfl, rfl⟩ := hp
        refine gStk (st' := [.int (bI (¬ ((Δ.2.1 (rI x)) = (Δ.2.1 (rI y)))))]) (pc' := 49) rfl rfl ?_
        refine gIf_ne (pc := 49) hC (tgt := 56) dX2_isSum_49 (by decide) (fun hc5 => absurd (bI_0.mpr (fun q => q oka)) hc5) (fun hc5 => ?_)
        obtain ⟨ν6, eν6, hRν6, htν6⟩ : ∃ ζ : mSt, ζ = (mTh μ (if ((Δ.2.1 (rI x)) = (Δ.2.1 (rI y))) then nI 0 else nI 3)) ∧ mRel ζ Δ ∧ mt ζ = nI (kk3 (okR x ∧ okR y) (okNum z) ((Δ.2.1 (rI x)) = (Δ.2.1 (rI y)))) := ⟨_, rfl, hR, (by rw [kk3_0 ok ok2 oka]; exact thr_t oka)⟩
        refine gWs (ws' := WM L ν6) (by first | (rw [eν6]; done) | (rw [eν6]; rfl)) ?_
        refine gIconst (pc := 52) hC (v := (nI 1)) dX2_isSum_52 (by decide +kernel) ?_
        refine gGoto (pc := 53) hC (tgt := 57) dX2_isSum_53 (by decide) ?_
        exact gRetZ hC hQ hr (rfl) (Nat.le_of_ble_eq_true rfl) (Nat.le_of_ble_eq_true rfl) dX2_isSum_57 (⟨_, rfl, _, rfl, htν6, Or.inl ⟨(kk3_0 ok ok2 oka), rfl, hRν6⟩⟩)

abbrev rmX2_combine : Room := { frames := 2, cells := 0, slots := 0, locals := 44 }
set_option maxRecDepth 100000 in
set_option maxHeartbeats 4000000 in
theorem c_X2_combine (l : Launch) (D : va_G) (L : mLay) (μ : mSt) (Δ : dSt) (x : Int32) (y : Int32) (z : Int32) (hR : mRel μ Δ) : gM l yX2_combine wsX2_combine rmX2_combine D (mTy L) (WM L μ) [.ref (kx L), .int x, .int y, .int z] 0 0 (fun r w => mPost L Δ (dRow Δ (rI x) (Δ.2.1 (rI x)) (cmb z (Δ.2.2 (rI x)) (Δ.2.2 (rI y)))) (kk3 (okR x ∧ okR y) (okS z) ((Δ.2.1 (rI x)) = (Δ.2.1 (rI y)))) (fun b => b = nI (cz (cmb z (Δ.2.2 (rI x)) (Δ.2.2 (rI y))) (Δ.2.1 (rI x)))) r w) := by
  refine gM.of (cc := cX2_combine) (maxL := 7) (ret := (some .int)) (own := RX2) (by decide) rfl rfl (Nat.le_of_ble_eq_true rfl) rfl ?_
  intro p e s m args below meth c A Q hC hr hnm hQ
  have hin2 : ∀ w ∈ u_ws RX2 TX2 6, w ∈ wsX2_combine := by decide +kernel
  have hl11 : Cond.fieldLink RX2 11 "RootrowsModel" "numbers" "[[I" ∈ wsX2_combine := by decide +kernel
  have hl14 : Cond.fieldLink RX2 14 "RootrowsModel" "lengths" "[I" ∈ wsX2_combine := by decide +kernel
  have hl18 : Cond.fieldLink RX2 18 "RootrowsModel" "made" "[I" ∈ wsX2_combine := by decide +kernel
  refine gAloadN (pc := 0) hC dX2_combine_0 rfl 0 rfl ?_
  refine gIloadN (pc := 1) hC dX2_combine_1 rfl 1 rfl ?_
  refine gIloadN (pc := 2) hC dX2_combine_2 rfl 2 rfl ?_
  refine gV (pc := 3) (rest := []) (ci := 2) (q0 := 0) hC (c_X2_lacksTwo l D L μ x y) rfl rfl (cwV 2 hC.2.2.2.2.1 gX2_combine_X2_lacksTwo rfl rfl rfl (by decide +kernel) ⟨Nat.le_of_ble_eq_true rfl, Nat.le_of_ble_eq_true rfl⟩) rfl rfl (Nat.le_of_ble_eq_true rfl) dX2_combine_3 ⟨Nat.le_of_ble_eq_true rfl, Nat.le_of_ble_eq_true rfl⟩ (fun v w1 hp => ?_)
  obtain ⟨rfl, rfl⟩ := hp
  refine gStk (st' := [.int (bI (¬ (okR x ∧ okR y)))]) (pc' := 6) rfl rfl ?_
  refine gIf_ne (pc := 6) hC (tgt := 68) dX2_combine_6 (by decide) (fun hc1 => ?_) (fun hc1 => ?_)
  · skip
    have nok : ¬ (okR x ∧ okR y) := bI_n.mp hc1
    refine gIconst (pc := 68) hC (v := (nI 0)) dX2_combine_68 (by decide +kernel) ?_
    exact gRetI hC hQ hr (Nat.le_of_ble_eq_true rfl) (Nat.le_of_ble_eq_true rfl) dX2_combine_69 (⟨_, rfl, _, rfl, by rw [kk3_1 nok]; exact thr_f nok, Or.inr ⟨kne (kk3_1 nok) ne1, hR⟩⟩)
  · skip
    have ok : (okR x ∧ okR y) := nn (bI_0.mp hc1)
    refine gAloadN (pc := 9) hC dX2_combine_9 rfl 0 rfl ?_
    refine gIloadN (pc := 10) hC dX2_combine_10 rfl 3 rfl ?_
    refine gBipush (pc := 11) hC (v := (nI 43)) dX2_combine_11 (by decide +kernel) ?_
    refine gIcmp_eq (pc := 13) hC (tgt := 28) dX2_combine_13 (by decide) (fun hc2 => ?_) (fun hc2 => ?_)
    · skip
      have oks : okS z := Or.inl hc2
      refine gIconst (pc := 28) hC (v := (nI 1)) dX2_combine_28 (by decide +kernel) ?_
      refine gGoto (pc := 29) hC (tgt := 33) dX2_combine_29 (by decide) ?_
      refine gStk (st' := [.int (bI (okS z)), .ref (kx L)]) (pc' := 33) (by rw [bI_t oks]) rfl ?_
      refine gIconst (pc := 33) hC (v := (nI 2)) dX2_combine_33 (by decide +kernel) ?_
      refine gV (pc := 34) (rest := []) (ci := 2) (q0 := 0) hC (c_X2_no l D L (mTh μ (if (okR x ∧ okR y) then nI 0 else nI 1)) (okS z) (nI 2)) rfl rfl (cwV 2 hC.2.2.2.2.1 gX2_combine_X2_no rfl rfl rfl (by decide +kernel) ⟨Nat.le_of_ble_eq_true rfl, Nat.le_of_ble_eq_true rfl⟩) rfl rfl (Nat.le_of_ble_eq_true rfl) dX2_combine_34 ⟨Nat.le_of_ble_eq_true rfl, Nat.le_of_ble_eq_true rfl⟩ (fun v w1 hp => ?_)
      obtain ⟨rfl, rfl⟩ := hp
      refine gStk (st' := [.int (bI (¬ (okS z)))]) (pc' := 37) rfl rfl ?_
      refine gIf_ne (pc := 37) hC (tgt := 68) dX2_combine_37 (by decide) (fun hc3 => absurd (bI_0.mpr (fun q => q oks)) hc3) (fun hc3 => ?_)
      obtain ⟨hi, ei⟩ := ok.1.get
      obtain ⟨hi2, ei2⟩ := ok.2.get
      have hle := hR.len hi
      have hle2 := hR.len hi2
      refine gAloadN (pc := 40) hC dX2_combine_40 rfl 0 rfl ?_
      refine gAloadN (pc := 41) hC dX2_combine_41 rfl 0 rfl ?_
      refine mGetArr (pc := 42) hC 1 (a := (kl L)) (by decide) ⟨rfl, rfl, rfl⟩ hin2 hl14 dX2_combine_42 ?_
      refine gIloadN (pc := 45) hC dX2_combine_45 rfl 1 rfl ?_
      refine mLenLd (pc := 46) hC (v := (nI (Δ.2.1 (rI x)))) (rI x) (ei) (hi) (hle) dX2_combine_46 ?_
      refine gAloadN (pc := 47) hC dX2_combine_47 rfl 0 rfl ?_
      refine mGetArr (pc := 48) hC 1 (a := (kl L)) (by decide) ⟨rfl, rfl, rfl⟩ hin2 hl14 dX2_combine_48 ?_
      refine gIloadN (pc := 51) hC dX2_combine_51 rfl 2 rfl ?_
      refine mLenLd (pc := 52) hC (v := (nI (Δ.2.1 (rI y)))) (rI y) (ei2) (hi2) (hle2) dX2_combine_52 ?_
      refine gIcmp_ne (pc := 53) hC (tgt := 60) dX2_combine_53 (by decide) (fun hc4 => ?_) (fun hc4 => ?_)
      · skip
        have noka : ¬ ((Δ.2.1 (rI x)) = (Δ.2.1 (rI y))) := fun q => hc4 ((len_eq hR hi hi2).mpr q)
        refine gIconst (pc := 60) hC (v := (nI 0)) dX2_combine_60 (by decide +kernel) ?_
        refine gStk (st' := [.int (bI ((Δ.2.1 (rI x)) = (Δ.2.1 (rI y)))), .ref (kx L)]) (pc' := 61) (by rw [bI_f noka]) rfl ?_
        refine gIconst (pc := 61) hC (v := (nI 3)) dX2_combine_61 (by decide +kernel) ?_
        refine gV (pc := 62) (rest := []) (ci := 2) (q0 := 0) hC (c_X2_no l D L (mTh μ (if (okS z) then nI 0 else nI 2)) ((Δ.2.1 (rI x)) = (Δ.2.1 (rI y))) (nI 3)) rfl rfl (cwV 2 hC.2.2.2.2.1 gX2_combine_X2_no rfl rfl rfl (by decide +kernel) ⟨Nat.le_of_ble_eq_true rfl, Nat.le_of_ble_eq_true rfl⟩) rfl rfl (Nat.le_of_ble_eq_true rfl) dX2_combine_62 ⟨Nat.le_of_ble_eq_true rfl, Nat.le_of_ble_eq_true rfl⟩ (fun v w1 hp => ?_)
        obtain ⟨rfl, rfl⟩ := hp
        refine gStk (st' := [.int (bI (¬ ((Δ.2.1 (rI x)) = (Δ.2.1 (rI y)))))]) (pc' := 65) rfl rfl ?_
        refine gIf_eq (pc := 65) hC (tgt := 70) dX2_combine_65 (by decide) (fun hc5 => absurd hc5 (bI_n.mpr noka)) (fun hc5 => ?_)
        refine gIconst (pc := 68) hC (v := (nI 0)) dX2_combine_68 (by decide +kernel) ?_
        exact gRetI hC hQ hr (Nat.le_of_ble_eq_true rfl) (Nat.le_of_ble_eq_true rfl) dX2_combine_69 (⟨_, rfl, _, rfl, by rw [kk3_3 ok oks noka]; exact thr_f noka, Or.inr ⟨kne (kk3_3 ok oks noka) ne3, hR⟩⟩)
      · skip
        have oka : ((Δ.2.1 (rI x)) = (Δ.2.1 (rI y))) := (len_eq hR hi hi2).mp hc4
        refine gIconst (pc := 56) hC (v := (nI 1)) dX2_combine_56 (by decide +kernel) ?_
        refine gGoto (pc := 57) hC (tgt := 61) dX2_combine_57 (by decide) ?_
        refine gStk (st' := [.int (bI ((Δ.2.1 (rI x)) = (Δ.2.1 (rI y)))), .ref (kx L)]) (pc' := 61) (by rw [bI_t oka]) rfl ?_
        refine gIconst (pc := 61) hC (v := (nI 3)) dX2_combine_61 (by decide +kernel) ?_
        refine gV (pc := 62) (rest := []) (ci := 2) (q0 := 0) hC (c_X2_no l D L (mTh μ (if (okS z) then nI 0 else nI 2)) ((Δ.2.1 (rI x)) = (Δ.2.1 (rI y))) (nI 3)) rfl rfl (cwV 2 hC.2.2.2.2.1 gX2_combine_X2_no rfl rfl rfl (by decide +kernel) ⟨Nat.le_of_ble_eq_true rfl, Nat.le_of_ble_eq_true rfl⟩) rfl rfl (Nat.le_of_ble_eq_true rfl) dX2_combine_62 ⟨Nat.le_of_ble_eq_true rfl, Nat.le_of_ble_eq_true rfl⟩ (fun v w1 hp => ?_)
        obtain ⟨rfl, rfl⟩ := hp
        refine gStk (st' := [.int (bI (¬ ((Δ.2.1 (rI x)) = (Δ.2.1 (rI y)))))]) (pc' := 65) rfl rfl ?_
        refine gIf_eq (pc := 65) hC (tgt := 70) dX2_combine_65 (by decide) (fun hc6 => ?_) (fun hc6 => absurd (bI_0.mpr (fun q => q oka)) hc6)
        obtain ⟨ν7, eν7, hRν7, htν7⟩ : ∃ ζ : mSt, ζ = (mTh μ (if ((Δ.2.1 (rI x)) = (Δ.2.1 (rI y))) then nI 0 else nI 3)) ∧ mRel ζ Δ ∧ mt ζ = nI (kk3 (okR x ∧ okR y) (okS z) ((Δ.2.1 (rI x)) = (Δ.2.1 (rI y)))) := ⟨_, rfl, hR, (by rw [kk3_0 ok oks oka]; exact thr_t oka)⟩
        refine gWs (ws' := WM L ν7) (by first | (rw [eν7]; done) | (rw [eν7]; rfl)) ?_
        obtain ⟨hi, ei⟩ := ok.1.get
        have hl_ := hRν7.okl hi
        have hle := hRν7.len hi
        have hF := hRν7.is hi
        have hz := hRν7.zer hi
        have hN := hl_.N
        have hL := hN.le
        have hp := hN.pos
        have hx8 : Value.int x = Value.int (nI (rI x)) := congrArg Value.int ei
        refine gLocE (lv' := [(0, .ref (kx L)), (1, .int (nI (rI x))), (2, .int y), (3, .int z)]) (by first | (rw [← hx8]; done) | (rw [← hx8]; rfl)) ?_
        obtain ⟨hi2, ei2⟩ := ok.2.get
        have hl2_ := hRν7.okl hi2
        have hle2 := hRν7.len hi2
        have hF2 := hRν7.is hi2
        have hz2 := hRν7.zer hi2
        have hN2 := hl2_.N
        have hL2 := hN2.le
        have hp2 := hN2.pos
        have hx9 : Value.int y = Value.int (nI (rI y)) := congrArg Value.int ei2
        refine gLocE (lv' := [(0, .ref (kx L)), (1, .int (nI (rI x))), (2, .int (nI (rI y))), (3, .int z)]) (by first | (rw [← hx9]; done) | (rw [← hx9]; rfl)) ?_
        have hG : mIs ν7 (rI y) (Δ.2.1 (rI x)) (Δ.2.2 (rI y)) := by rw [oka]; exact hF2
        refine gIconst (pc := 70) hC (v := (nI 0)) dX2_combine_70 (by decide +kernel) ?_
        refine gIstore (pc := 71) hC (lv' := [(4, .int (nI 0)), (0, .ref (kx L)), (1, .int (nI (rI x))), (2, .int (nI (rI y))), (3, .int z)]) dX2_combine_71 (by decide) rfl ?_
        refine gLoc (lv' := [(4, .int (nI 0)), (0, .ref (kx L)), (1, .int (nI (rI x))), (2, .int (nI (rI y))), (3, .int z)]) [0, 1, 2, 3, 4] rfl ?_
        refine loopUp (S := mSt) (fun i ζ => gG p l e rmX2_combine s m args below meth c D A 7 0 0 Q (WM L ζ) 73 [(4, .int (nI i)), (0, .ref (kx L)), (1, .int (nI (rI x))), (2, .int (nI (rI y))), (3, .int z)] []) (fun i ζ => mFill ν7 (cmb z (Δ.2.2 (rI x)) (Δ.2.2 (rI y))) i ζ) (Δ.2.1 (rI x)) ?_ ?_ 0 (ν7) (by omega) (mFill.zero ν7 _)
        · intro ζ hI
          revert hI; generalize ζ = ν1; intro hI
          have hF9 := hI.is hF
          have hle9 := hI.len hle
          refine gIload (pc := 73) hC dX2_combine_73 0 rfl ?_
          refine gAloadN (pc := 75) hC dX2_combine_75 rfl 1 rfl ?_
          refine mGetArr (pc := 76) hC 1 (a := (kl L)) (by decide) ⟨rfl, rfl, rfl⟩ hin2 hl14 dX2_combine_76 ?_
          refine gIloadN (pc := 79) hC dX2_combine_79 rfl 2 rfl ?_
          refine mLenLd (pc := 80) hC (v := (nI (Δ.2.1 (rI x)))) (rI x) (rfl) (hi) (hle9) dX2_combine_80 ?_
          refine gIcmp_ge (pc := 81) hC (tgt := 166) dX2_combine_81 (by decide) (fun hc10 => ?_) (fun hc10 => absurd (nI_le (Nat.le_refl _) (by omega)) hc10)
          have h1 := hI
          refine gAloadN (pc := 166) hC dX2_combine_166 rfl 1 rfl ?_
          refine gIloadN (pc := 167) hC dX2_combine_167 rfl 2 rfl ?_
          refine gV (pc := 168) (rest := []) (ci := 2) (q0 := 0) hC (c_X2_putZeros l D L ν1 (rI x) (Δ.2.1 (rI x)) (Δ.2.2 (rI x)) (cmb z (Δ.2.2 (rI x)) (Δ.2.2 (rI y))) hi (h1.len hle) (h1.is hF) h1.got (by omega)) rfl rfl (cwV 1 hC.2.2.2.2.1 gX2_combine_X2_putZeros rfl rfl rfl (by decide +kernel) ⟨Nat.le_of_ble_eq_true rfl, Nat.le_of_ble_eq_true rfl⟩) rfl rfl (Nat.le_of_ble_eq_true rfl) dX2_combine_168 ⟨Nat.le_of_ble_eq_true rfl, Nat.le_of_ble_eq_true rfl⟩ (fun v w1 hp => ?_)
          obtain ⟨rfl, ν2, rfl, h2⟩ := hp
          refine gStk (st' := [.int (nI (cz (cmb z (Δ.2.2 (rI x)) (Δ.2.2 (rI y))) (Δ.2.1 (rI x))))]) (pc' := 171) rfl rfl ?_
          exact gRetI hC hQ hr (Nat.le_of_ble_eq_true rfl) (Nat.le_of_ble_eq_true rfl) dX2_combine_171 (⟨_, rfl, _, rfl, (h2.thr.trans (h1.thr.trans htν7)), Or.inl ⟨(kk3_0 ok oks oka), rfl, mFill.relput hRν7 hi h1 h2⟩⟩)
        · intro i ζ hi9 hI ih
          revert hI; generalize ζ = ν1; intro hI
          have hF9 := hI.is hF
          have hle9 := hI.len hle
          refine gIload (pc := 73) hC dX2_combine_73 0 rfl ?_
          refine gAloadN (pc := 75) hC dX2_combine_75 rfl 1 rfl ?_
          refine mGetArr (pc := 76) hC 1 (a := (kl L)) (by decide) ⟨rfl, rfl, rfl⟩ hin2 hl14 dX2_combine_76 ?_
          refine gIloadN (pc := 79) hC dX2_combine_79 rfl 2 rfl ?_
          refine mLenLd (pc := 80) hC (v := (nI (Δ.2.1 (rI x)))) (rI x) (rfl) (hi) (hle9) dX2_combine_80 ?_
          refine gIcmp_ge (pc := 81) hC (tgt := 166) dX2_combine_81 (by decide) (fun hc11 => absurd hc11 (nI_ge hi9 (by omega))) (fun hc11 => ?_)
          have hG9 := hI.is hG
          refine gAloadN (pc := 84) hC dX2_combine_84 rfl 1 rfl ?_
          refine mGetArr (pc := 85) hC 0 (a := (kn L)) (by decide) ⟨rfl, rfl, rfl⟩ hin2 hl11 dX2_combine_85 ?_
          refine gIloadN (pc := 88) hC dX2_combine_88 rfl 2 rfl ?_
          refine mRowAld (pc := 89) hC (rI x) (rfl) (hi) dX2_combine_89 ?_
          refine gIload (pc := 90) hC dX2_combine_90 0 rfl ?_
          refine mNumLd (pc := 92) hC (K := (rI x)) (v := (nI ((Δ.2.2 (rI x)) i).val)) (by omega) i (rfl) (by omega) (hF9 _ (by omega)) dX2_combine_92 ?_
          refine gIstore (pc := 93) hC (lv' := [(5, .int (nI ((Δ.2.2 (rI x)) i).val)), (4, .int (nI i)), (0, .ref (kx L)), (1, .int (nI (rI x))), (2, .int (nI (rI y))), (3, .int z)]) dX2_combine_93 (by decide) rfl ?_
          refine gAloadN (pc := 95) hC dX2_combine_95 rfl 2 rfl ?_
          refine mGetArr (pc := 96) hC 0 (a := (kn L)) (by decide) ⟨rfl, rfl, rfl⟩ hin2 hl11 dX2_combine_96 ?_
          refine gIloadN (pc := 99) hC dX2_combine_99 rfl 4 rfl ?_
          refine mRowAld (pc := 100) hC (rI y) (rfl) (hi2) dX2_combine_100 ?_
          refine gIload (pc := 101) hC dX2_combine_101 1 rfl ?_
          refine mNumLd (pc := 103) hC (K := (rI y)) (v := (nI ((Δ.2.2 (rI y)) i).val)) (by omega) i (rfl) (by omega) (hG9 _ (by omega)) dX2_combine_103 ?_
          refine gIstore (pc := 104) hC (lv' := [(6, .int (nI ((Δ.2.2 (rI y)) i).val)), (5, .int (nI ((Δ.2.2 (rI x)) i).val)), (4, .int (nI i)), (0, .ref (kx L)), (1, .int (nI (rI x))), (2, .int (nI (rI y))), (3, .int z)]) dX2_combine_104 (by decide) rfl ?_
          refine gAloadN (pc := 106) hC dX2_combine_106 rfl 3 rfl ?_
          refine mGetArr (pc := 107) hC 2 (a := (km L)) (by decide) ⟨rfl, rfl, rfl⟩ hin2 hl18 dX2_combine_107 ?_
          refine gIload (pc := 110) hC dX2_combine_110 2 rfl ?_
          refine gIloadN (pc := 112) hC dX2_combine_112 rfl 6 rfl ?_
          refine gBipush (pc := 113) hC (v := (nI 43)) dX2_combine_113 (by decide +kernel) ?_
          refine gIcmp_ne (pc := 115) hC (tgt := 129) dX2_combine_115 (by decide) (fun hc12 => ?_) (fun hc12 => ?_)
          · skip
            refine gIloadN (pc := 129) hC dX2_combine_129 rfl 6 rfl ?_
            refine gBipush (pc := 130) hC (v := (nI 45)) dX2_combine_130 (by decide +kernel) ?_
            refine gIcmp_ne (pc := 132) hC (tgt := 149) dX2_combine_132 (by decide) (fun hc13 => ?_) (fun hc13 => ?_)
            · skip
              refine gIload (pc := 149) hC dX2_combine_149 1 rfl ?_
              refine gI2l (pc := 151) hC (v := (lN ((Δ.2.2 (rI x)) i).val)) dX2_combine_151 (nI_l (by have := ((Δ.2.2 (rI x)) i).isLt; omega)) ?_
              refine gIload (pc := 152) hC dX2_combine_152 0 rfl ?_
              refine gI2l (pc := 154) hC (v := (lN ((Δ.2.2 (rI y)) i).val)) dX2_combine_154 (nI_l (by have := ((Δ.2.2 (rI y)) i).isLt; omega)) ?_
              refine gIconst (pc := 155) hC (v := (nI 0)) dX2_combine_155 (by decide +kernel) ?_
              refine gS (pc := 156) (rest := [.int (nI i), .ref (km L)]) hC (c_X2_product l D _ _ _ _ _ ((Δ.2.2 (rI x)) i) ((Δ.2.2 (rI y)) i) 0 rfl rfl rfl) (va_cwS 3 hC.2.2.2.2.1 gX2_combine_X2_product rfl rfl rfl (by decide +kernel) ⟨Nat.le_of_ble_eq_true rfl, Nat.le_of_ble_eq_true rfl⟩) rfl rfl (Nat.le_of_ble_eq_true rfl) dX2_combine_156 ⟨Nat.le_of_ble_eq_true rfl, Nat.le_of_ble_eq_true rfl⟩ (fun v w1 hp => ?_)
              obtain ⟨rfl, rfl⟩ := hp
              refine gStk (st' := [.int (nI ((Δ.2.2 (rI x)) i * (Δ.2.2 (rI y)) i + 0).val), .int (nI i), .ref (km L)]) (pc' := 159) rfl rfl ?_
              obtain ⟨ν14, eν14⟩ : ∃ ζ : mSt, ζ = mMa ν1 (upd (mm ν1) i (nI ((Δ.2.2 (rI x)) i * (Δ.2.2 (rI y)) i + 0).val)) := ⟨_, rfl⟩
              refine mMadSt (pc := 159) hC i (rfl) (by omega) eν14 dX2_combine_159 ?_
              refine gIinc (pc := 160) hC (v := (nI (i + 1))) (lv' := [(4, .int (nI (i + 1))), (6, .int (nI ((Δ.2.2 (rI y)) i).val)), (5, .int (nI ((Δ.2.2 (rI x)) i).val)), (0, .ref (kx L)), (1, .int (nI (rI x))), (2, .int (nI (rI y))), (3, .int z)]) dX2_combine_160 (q := 2) rfl (nI_1 _) (by decide) rfl ?_
              refine gGoto (pc := 163) hC (tgt := 73) dX2_combine_163 (by decide) ?_
              refine gLoc (lv' := [(4, .int (nI (i + 1))), (0, .ref (kx L)), (1, .int (nI (rI x))), (2, .int (nI (rI y))), (3, .int z)]) [0, 3, 4, 5, 6] rfl ?_
              exact ih (ν14) (hI.step eν14 (by rw [fr_a0]; unfold cmb; rw [if_neg hc12, if_neg hc13]))
            · skip
              refine gIload (pc := 135) hC dX2_combine_135 1 rfl ?_
              refine gIload (pc := 137) hC dX2_combine_137 0 rfl ?_
              refine gIsub (pc := 139) hC dX2_combine_139 rfl ?_
              refine gLdc (pc := 140) hC (v := 65537) dX2_combine_140 (by decide +kernel) ?_
              refine gIadd (pc := 142) hC dX2_combine_142 rfl ?_
              refine gLdc (pc := 143) hC (v := 65537) dX2_combine_143 (by decide +kernel) ?_
              refine gIrem (pc := 145) hC (v := (nI ((Δ.2.2 (rI x)) i - (Δ.2.2 (rI y)) i).val)) dX2_combine_145 (by decide) (j_sub2 ((Δ.2.2 (rI x)) i) ((Δ.2.2 (rI y)) i) rfl rfl) ?_
              refine gGoto (pc := 146) hC (tgt := 159) dX2_combine_146 (by decide) ?_
              obtain ⟨ν15, eν15⟩ : ∃ ζ : mSt, ζ = mMa ν1 (upd (mm ν1) i (nI ((Δ.2.2 (rI x)) i - (Δ.2.2 (rI y)) i).val)) := ⟨_, rfl⟩
              refine mMadSt (pc := 159) hC i (rfl) (by omega) eν15 dX2_combine_159 ?_
              refine gIinc (pc := 160) hC (v := (nI (i + 1))) (lv' := [(4, .int (nI (i + 1))), (6, .int (nI ((Δ.2.2 (rI y)) i).val)), (5, .int (nI ((Δ.2.2 (rI x)) i).val)), (0, .ref (kx L)), (1, .int (nI (rI x))), (2, .int (nI (rI y))), (3, .int z)]) dX2_combine_160 (q := 2) rfl (nI_1 _) (by decide) rfl ?_
              refine gGoto (pc := 163) hC (tgt := 73) dX2_combine_163 (by decide) ?_
              refine gLoc (lv' := [(4, .int (nI (i + 1))), (0, .ref (kx L)), (1, .int (nI (rI x))), (2, .int (nI (rI y))), (3, .int z)]) [0, 3, 4, 5, 6] rfl ?_
              exact ih (ν15) (hI.step eν15 (by unfold cmb; rw [if_neg hc12, if_pos hc13]))
          · skip
            refine gIload (pc := 118) hC dX2_combine_118 1 rfl ?_
            refine gIload (pc := 120) hC dX2_combine_120 0 rfl ?_
            refine gIadd (pc := 122) hC dX2_combine_122 rfl ?_
            refine gLdc (pc := 123) hC (v := 65537) dX2_combine_123 (by decide +kernel) ?_
            refine gIrem (pc := 125) hC (v := (nI ((Δ.2.2 (rI x)) i + (Δ.2.2 (rI y)) i).val)) dX2_combine_125 (by decide) (j_add ((Δ.2.2 (rI x)) i) ((Δ.2.2 (rI y)) i) rfl rfl) ?_
            refine gGoto (pc := 126) hC (tgt := 159) dX2_combine_126 (by decide) ?_
            obtain ⟨ν16, eν16⟩ : ∃ ζ : mSt, ζ = mMa ν1 (upd (mm ν1) i (nI ((Δ.2.2 (rI x)) i + (Δ.2.2 (rI y)) i).val)) := ⟨_, rfl⟩
            refine mMadSt (pc := 159) hC i (rfl) (by omega) eν16 dX2_combine_159 ?_
            refine gIinc (pc := 160) hC (v := (nI (i + 1))) (lv' := [(4, .int (nI (i + 1))), (6, .int (nI ((Δ.2.2 (rI y)) i).val)), (5, .int (nI ((Δ.2.2 (rI x)) i).val)), (0, .ref (kx L)), (1, .int (nI (rI x))), (2, .int (nI (rI y))), (3, .int z)]) dX2_combine_160 (q := 2) rfl (nI_1 _) (by decide) rfl ?_
            refine gGoto (pc := 163) hC (tgt := 73) dX2_combine_163 (by decide) ?_
            refine gLoc (lv' := [(4, .int (nI (i + 1))), (0, .ref (kx L)), (1, .int (nI (rI x))), (2, .int (nI (rI y))), (3, .int z)]) [0, 3, 4, 5, 6] rfl ?_
            exact ih (ν16) (hI.step eν16 (by unfold cmb; rw [if_pos hc12]))
    · skip
      refine gIloadN (pc := 16) hC dX2_combine_16 rfl 3 rfl ?_
      refine gBipush (pc := 17) hC (v := (nI 45)) dX2_combine_17 (by decide +kernel) ?_
      refine gIcmp_eq (pc := 19) hC (tgt := 28) dX2_combine_19 (by decide) (fun hc17 => ?_) (fun hc17 => ?_)
      · skip
        have oks : okS z := Or.inr (Or.inl hc17)
        refine gIconst (pc := 28) hC (v := (nI 1)) dX2_combine_28 (by decide +kernel) ?_
        refine gGoto (pc := 29) hC (tgt := 33) dX2_combine_29 (by decide) ?_
        refine gStk (st' := [.int (bI (okS z)), .ref (kx L)]) (pc' := 33) (by rw [bI_t oks]) rfl ?_
        refine gIconst (pc := 33) hC (v := (nI 2)) dX2_combine_33 (by decide +kernel) ?_
        refine gV (pc := 34) (rest := []) (ci := 2) (q0 := 0) hC (c_X2_no l D L (mTh μ (if (okR x ∧ okR y) then nI 0 else nI 1)) (okS z) (nI 2)) rfl rfl (cwV 2 hC.2.2.2.2.1 gX2_combine_X2_no rfl rfl rfl (by decide +kernel) ⟨Nat.le_of_ble_eq_true rfl, Nat.le_of_ble_eq_true rfl⟩) rfl rfl (Nat.le_of_ble_eq_true rfl) dX2_combine_34 ⟨Nat.le_of_ble_eq_true rfl, Nat.le_of_ble_eq_true rfl⟩ (fun v w1 hp => ?_)
        obtain ⟨rfl, rfl⟩ := hp
        refine gStk (st' := [.int (bI (¬ (okS z)))]) (pc' := 37) rfl rfl ?_
        refine gIf_ne (pc := 37) hC (tgt := 68) dX2_combine_37 (by decide) (fun hc18 => absurd (bI_0.mpr (fun q => q oks)) hc18) (fun hc18 => ?_)
        obtain ⟨hi, ei⟩ := ok.1.get
        obtain ⟨hi2, ei2⟩ := ok.2.get
        have hle := hR.len hi
        have hle2 := hR.len hi2
        refine gAloadN (pc := 40) hC dX2_combine_40 rfl 0 rfl ?_
        refine gAloadN (pc := 41) hC dX2_combine_41 rfl 0 rfl ?_
        refine mGetArr (pc := 42) hC 1 (a := (kl L)) (by decide) ⟨rfl, rfl, rfl⟩ hin2 hl14 dX2_combine_42 ?_
        refine gIloadN (pc := 45) hC dX2_combine_45 rfl 1 rfl ?_
        refine mLenLd (pc := 46) hC (v := (nI (Δ.2.1 (rI x)))) (rI x) (ei) (hi) (hle) dX2_combine_46 ?_
        refine gAloadN (pc := 47) hC dX2_combine_47 rfl 0 rfl ?_
        refine mGetArr (pc := 48) hC 1 (a := (kl L)) (by decide) ⟨rfl, rfl, rfl⟩ hin2 hl14 dX2_combine_48 ?_
        refine gIloadN (pc := 51) hC dX2_combine_51 rfl 2 rfl ?_
        refine mLenLd (pc := 52) hC (v := (nI (Δ.2.1 (rI y)))) (rI y) (ei2) (hi2) (hle2) dX2_combine_52 ?_
        refine gIcmp_ne (pc := 53) hC (tgt := 60) dX2_combine_53 (by decide) (fun hc19 => ?_) (fun hc19 => ?_)
        · skip
          have noka : ¬ ((Δ.2.1 (rI x)) = (Δ.2.1 (rI y))) := fun q => hc19 ((len_eq hR hi hi2).mpr q)
          refine gIconst (pc := 60) hC (v := (nI 0)) dX2_combine_60 (by decide +kernel) ?_
          refine gStk (st' := [.int (bI ((Δ.2.1 (rI x)) = (Δ.2.1 (rI y)))), .ref (kx L)]) (pc' := 61) (by rw [bI_f noka]) rfl ?_
          refine gIconst (pc := 61) hC (v := (nI 3)) dX2_combine_61 (by decide +kernel) ?_
          refine gV (pc := 62) (rest := []) (ci := 2) (q0 := 0) hC (c_X2_no l D L (mTh μ (if (okS z) then nI 0 else nI 2)) ((Δ.2.1 (rI x)) = (Δ.2.1 (rI y))) (nI 3)) rfl rfl (cwV 2 hC.2.2.2.2.1 gX2_combine_X2_no rfl rfl rfl (by decide +kernel) ⟨Nat.le_of_ble_eq_true rfl, Nat.le_of_ble_eq_true rfl⟩) rfl rfl (Nat.le_of_ble_eq_true rfl) dX2_combine_62 ⟨Nat.le_of_ble_eq_true rfl, Nat.le_of_ble_eq_true rfl⟩ (fun v w1 hp => ?_)
          obtain ⟨rfl, rfl⟩ := hp
          refine gStk (st' := [.int (bI (¬ ((Δ.2.1 (rI x)) = (Δ.2.1 (rI y)))))]) (pc' := 65) rfl rfl ?_
          refine gIf_eq (pc := 65) hC (tgt := 70) dX2_combine_65 (by decide) (fun hc20 => absurd hc20 (bI_n.mpr noka)) (fun hc20 => ?_)
          refine gIconst (pc := 68) hC (v := (nI 0)) dX2_combine_68 (by decide +kernel) ?_
          exact gRetI hC hQ hr (Nat.le_of_ble_eq_true rfl) (Nat.le_of_ble_eq_true rfl) dX2_combine_69 (⟨_, rfl, _, rfl, by rw [kk3_3 ok oks noka]; exact thr_f noka, Or.inr ⟨kne (kk3_3 ok oks noka) ne3, hR⟩⟩)
        · skip
          have oka : ((Δ.2.1 (rI x)) = (Δ.2.1 (rI y))) := (len_eq hR hi hi2).mp hc19
          refine gIconst (pc := 56) hC (v := (nI 1)) dX2_combine_56 (by decide +kernel) ?_
          refine gGoto (pc := 57) hC (tgt := 61) dX2_combine_57 (by decide) ?_
          refine gStk (st' := [.int (bI ((Δ.2.1 (rI x)) = (Δ.2.1 (rI y)))), .ref (kx L)]) (pc' := 61) (by rw [bI_t oka]) rfl ?_
          refine gIconst (pc := 61) hC (v := (nI 3)) dX2_combine_61 (by decide +kernel) ?_
          refine gV (pc := 62) (rest := []) (ci := 2) (q0 := 0) hC (c_X2_no l D L (mTh μ (if (okS z) then nI 0 else nI 2)) ((Δ.2.1 (rI x)) = (Δ.2.1 (rI y))) (nI 3)) rfl rfl (cwV 2 hC.2.2.2.2.1 gX2_combine_X2_no rfl rfl rfl (by decide +kernel) ⟨Nat.le_of_ble_eq_true rfl, Nat.le_of_ble_eq_true rfl⟩) rfl rfl (Nat.le_of_ble_eq_true rfl) dX2_combine_62 ⟨Nat.le_of_ble_eq_true rfl, Nat.le_of_ble_eq_true rfl⟩ (fun v w1 hp => ?_)
          obtain ⟨rfl, rfl⟩ := hp
          refine gStk (st' := [.int (bI (¬ ((Δ.2.1 (rI x)) = (Δ.2.1 (rI y)))))]) (pc' := 65) rfl rfl ?_
          refine gIf_eq (pc := 65) hC (tgt := 70) dX2_combine_65 (by decide) (fun hc21 => ?_) (fun hc21 => absurd (bI_0.mpr (fun q => q oka)) hc21)
          obtain ⟨ν22, eν22, hRν22, htν22⟩ : ∃ ζ : mSt, ζ = (mTh μ (if ((Δ.2.1 (rI x)) = (Δ.2.1 (rI y))) then nI 0 else nI 3)) ∧ mRel ζ Δ ∧ mt ζ = nI (kk3 (okR x ∧ okR y) (okS z) ((Δ.2.1 (rI x)) = (Δ.2.1 (rI y)))) := ⟨_, rfl, hR, (by rw [kk3_0 ok oks oka]; exact thr_t oka)⟩
          refine gWs (ws' := WM L ν22) (by first | (rw [eν22]; done) | (rw [eν22]; rfl)) ?_
          obtain ⟨hi, ei⟩ := ok.1.get
          have hl_ := hRν22.okl hi
          have hle := hRν22.len hi
          have hF := hRν22.is hi
          have hz := hRν22.zer hi
          have hN := hl_.N
          have hL := hN.le
          have hp := hN.pos
          have hx23 : Value.int x = Value.int (nI (rI x)) := congrArg Value.int ei
          refine gLocE (lv' := [(0, .ref (kx L)), (1, .int (nI (rI x))), (2, .int y), (3, .int z)]) (by first | (rw [← hx23]; done) | (rw [← hx23]; rfl)) ?_
          obtain ⟨hi2, ei2⟩ := ok.2.get
          have hl2_ := hRν22.okl hi2
          have hle2 := hRν22.len hi2
          have hF2 := hRν22.is hi2
          have hz2 := hRν22.zer hi2
          have hN2 := hl2_.N
          have hL2 := hN2.le
          have hp2 := hN2.pos
          have hx24 : Value.int y = Value.int (nI (rI y)) := congrArg Value.int ei2
          refine gLocE (lv' := [(0, .ref (kx L)), (1, .int (nI (rI x))), (2, .int (nI (rI y))), (3, .int z)]) (by first | (rw [← hx24]; done) | (rw [← hx24]; rfl)) ?_
          have hG : mIs ν22 (rI y) (Δ.2.1 (rI x)) (Δ.2.2 (rI y)) := by rw [oka]; exact hF2
          refine gIconst (pc := 70) hC (v := (nI 0)) dX2_combine_70 (by decide +kernel) ?_
          refine gIstore (pc := 71) hC (lv' := [(4, .int (nI 0)), (0, .ref (kx L)), (1, .int (nI (rI x))), (2, .int (nI (rI y))), (3, .int z)]) dX2_combine_71 (by decide) rfl ?_
          refine gLoc (lv' := [(4, .int (nI 0)), (0, .ref (kx L)), (1, .int (nI (rI x))), (2, .int (nI (rI y))), (3, .int z)]) [0, 1, 2, 3, 4] rfl ?_
          refine loopUp (S := mSt) (fun i ζ => gG p l e rmX2_combine s m args below meth c D A 7 0 0 Q (WM L ζ) 73 [(4, .int (nI i)), (0, .ref (kx L)), (1, .int (nI (rI x))), (2, .int (nI (rI y))), (3, .int z)] []) (fun i ζ => mFill ν22 (cmb z (Δ.2.2 (rI x)) (Δ.2.2 (rI y))) i ζ) (Δ.2.1 (rI x)) ?_ ?_ 0 (ν22) (by omega) (mFill.zero ν22 _)
          · intro ζ hI
            revert hI; generalize ζ = ν1; intro hI
            have hF9 := hI.is hF
            have hle9 := hI.len hle
            refine gIload (pc := 73) hC dX2_combine_73 0 rfl ?_
            refine gAloadN (pc := 75) hC dX2_combine_75 rfl 1 rfl ?_
            refine mGetArr (pc := 76) hC 1 (a := (kl L)) (by decide) ⟨rfl, rfl, rfl⟩ hin2 hl14 dX2_combine_76 ?_
            refine gIloadN (pc := 79) hC dX2_combine_79 rfl 2 rfl ?_
            refine mLenLd (pc := 80) hC (v := (nI (Δ.2.1 (rI x)))) (rI x) (rfl) (hi) (hle9) dX2_combine_80 ?_
            refine gIcmp_ge (pc := 81) hC (tgt := 166) dX2_combine_81 (by decide) (fun hc25 => ?_) (fun hc25 => absurd (nI_le (Nat.le_refl _) (by omega)) hc25)
            have h1 := hI
            refine gAloadN (pc := 166) hC dX2_combine_166 rfl 1 rfl ?_
            refine gIloadN (pc := 167) hC dX2_combine_167 rfl 2 rfl ?_
            refine gV (pc := 168) (rest := []) (ci := 2) (q0 := 0) hC (c_X2_putZeros l D L ν1 (rI x) (Δ.2.1 (rI x)) (Δ.2.2 (rI x)) (cmb z (Δ.2.2 (rI x)) (Δ.2.2 (rI y))) hi (h1.len hle) (h1.is hF) h1.got (by omega)) rfl rfl (cwV 1 hC.2.2.2.2.1 gX2_combine_X2_putZeros rfl rfl rfl (by decide +kernel) ⟨Nat.le_of_ble_eq_true rfl, Nat.le_of_ble_eq_true rfl⟩) rfl rfl (Nat.le_of_ble_eq_true rfl) dX2_combine_168 ⟨Nat.le_of_ble_eq_true rfl, Nat.le_of_ble_eq_true rfl⟩ (fun v w1 hp => ?_)
            obtain ⟨rfl, ν2, rfl, h2⟩ := hp
            refine gStk (st' := [.int (nI (cz (cmb z (Δ.2.2 (rI x)) (Δ.2.2 (rI y))) (Δ.2.1 (rI x))))]) (pc' := 171) rfl rfl ?_
            exact gRetI hC hQ hr (Nat.le_of_ble_eq_true rfl) (Nat.le_of_ble_eq_true rfl) dX2_combine_171 (⟨_, rfl, _, rfl, (h2.thr.trans (h1.thr.trans htν22)), Or.inl ⟨(kk3_0 ok oks oka), rfl, mFill.relput hRν22 hi h1 h2⟩⟩)
          · intro i ζ hi9 hI ih
            revert hI; generalize ζ = ν1; intro hI
            have hF9 := hI.is hF
            have hle9 := hI.len hle
            refine gIload (pc := 73) hC dX2_combine_73 0 rfl ?_
            refine gAloadN (pc := 75) hC dX2_combine_75 rfl 1 rfl ?_
            refine mGetArr (pc := 76) hC 1 (a := (kl L)) (by decide) ⟨rfl, rfl, rfl⟩ hin2 hl14 dX2_combine_76 ?_
            refine gIloadN (pc := 79) hC dX2_combine_79 rfl 2 rfl ?_
            refine mLenLd (pc := 80) hC (v := (nI (Δ.2.1 (rI x)))) (rI x) (rfl) (hi) (hle9) dX2_combine_80 ?_
            refine gIcmp_ge (pc := 81) hC (tgt := 166) dX2_combine_81 (by decide) (fun hc26 => absurd hc26 (nI_ge hi9 (by omega))) (fun hc26 => ?_)
            have hG9 := hI.is hG
            refine gAloadN (pc := 84) hC dX2_combine_84 rfl 1 rfl ?_
            refine mGetArr (pc := 85) hC 0 (a := (kn L)) (by decide) ⟨rfl, rfl, rfl⟩ hin2 hl11 dX2_combine_85 ?_
            refine gIloadN (pc := 88) hC dX2_combine_88 rfl 2 rfl ?_
            refine mRowAld (pc := 89) hC (rI x) (rfl) (hi) dX2_combine_89 ?_
            refine gIload (pc := 90) hC dX2_combine_90 0 rfl ?_
            refine mNumLd (pc := 92) hC (K := (rI x)) (v := (nI ((Δ.2.2 (rI x)) i).val)) (by omega) i (rfl) (by omega) (hF9 _ (by omega)) dX2_combine_92 ?_
            refine gIstore (pc := 93) hC (lv' := [(5, .int (nI ((Δ.2.2 (rI x)) i).val)), (4, .int (nI i)), (0, .ref (kx L)), (1, .int (nI (rI x))), (2, .int (nI (rI y))), (3, .int z)]) dX2_combine_93 (by decide) rfl ?_
            refine gAloadN (pc := 95) hC dX2_combine_95 rfl 2 rfl ?_
            refine mGetArr (pc := 96) hC 0 (a := (kn L)) (by decide) ⟨rfl, rfl, rfl⟩ hin2 hl11 dX2_combine_96 ?_
            refine gIloadN (pc := 99) hC dX2_combine_99 rfl 4 rfl ?_
            refine mRowAld (pc := 100) hC (rI y) (rfl) (hi2) dX2_combine_100 ?_
            refine gIload (pc := 101) hC dX2_combine_101 1 rfl ?_
            refine mNumLd (pc := 103) hC (K := (rI y)) (v := (nI ((Δ.2.2 (rI y)) i).val)) (by omega) i (rfl) (by omega) (hG9 _ (by omega)) dX2_combine_103 ?_
            refine gIstore (pc := 104) hC (lv' := [(6, .int (nI ((Δ.2.2 (rI y)) i).val)), (5, .int (nI ((Δ.2.2 (rI x)) i).val)), (4, .int (nI i)), (0, .ref (kx L)), (1, .int (nI (rI x))), (2, .int (nI (rI y))), (3, .int z)]) dX2_combine_104 (by decide) rfl ?_
            refine gAloadN (pc := 106) hC dX2_combine_106 rfl 3 rfl ?_
            refine mGetArr (pc := 107) hC 2 (a := (km L)) (by decide) ⟨rfl, rfl, rfl⟩ hin2 hl18 dX2_combine_107 ?_
            refine gIload (pc := 110) hC dX2_combine_110 2 rfl ?_
            refine gIloadN (pc := 112) hC dX2_combine_112 rfl 6 rfl ?_
            refine gBipush (pc := 113) hC (v := (nI 43)) dX2_combine_113 (by decide +kernel) ?_
            refine gIcmp_ne (pc := 115) hC (tgt := 129) dX2_combine_115 (by decide) (fun hc27 => ?_) (fun hc27 => ?_)
            · skip
              refine gIloadN (pc := 129) hC dX2_combine_129 rfl 6 rfl ?_
              refine gBipush (pc := 130) hC (v := (nI 45)) dX2_combine_130 (by decide +kernel) ?_
              refine gIcmp_ne (pc := 132) hC (tgt := 149) dX2_combine_132 (by decide) (fun hc28 => ?_) (fun hc28 => ?_)
              · skip
                refine gIload (pc := 149) hC dX2_combine_149 1 rfl ?_
                refine gI2l (pc := 151) hC (v := (lN ((Δ.2.2 (rI x)) i).val)) dX2_combine_151 (nI_l (by have := ((Δ.2.2 (rI x)) i).isLt; omega)) ?_
                refine gIload (pc := 152) hC dX2_combine_152 0 rfl ?_
                refine gI2l (pc := 154) hC (v := (lN ((Δ.2.2 (rI y)) i).val)) dX2_combine_154 (nI_l (by have := ((Δ.2.2 (rI y)) i).isLt; omega)) ?_
                refine gIconst (pc := 155) hC (v := (nI 0)) dX2_combine_155 (by decide +kernel) ?_
                refine gS (pc := 156) (rest := [.int (nI i), .ref (km L)]) hC (c_X2_product l D _ _ _ _ _ ((Δ.2.2 (rI x)) i) ((Δ.2.2 (rI y)) i) 0 rfl rfl rfl) (va_cwS 3 hC.2.2.2.2.1 gX2_combine_X2_product rfl rfl rfl (by decide +kernel) ⟨Nat.le_of_ble_eq_true rfl, Nat.le_of_ble_eq_true rfl⟩) rfl rfl (Nat.le_of_ble_eq_true rfl) dX2_combine_156 ⟨Nat.le_of_ble_eq_true rfl, Nat.le_of_ble_eq_true rfl⟩ (fun v w1 hp => ?_)
                obtain ⟨rfl, rfl⟩ := hp
                refine gStk (st' := [.int (nI ((Δ.2.2 (rI x)) i * (Δ.2.2 (rI y)) i + 0).val), .int (nI i), .ref (km L)]) (pc' := 159) rfl rfl ?_
                obtain ⟨ν29, eν29⟩ : ∃ ζ : mSt, ζ = mMa ν1 (upd (mm ν1) i (nI ((Δ.2.2 (rI x)) i * (Δ.2.2 (rI y)) i + 0).val)) := ⟨_, rfl⟩
                refine mMadSt (pc := 159) hC i (rfl) (by omega) eν29 dX2_combine_159 ?_
                refine gIinc (pc := 160) hC (v := (nI (i + 1))) (lv' := [(4, .int (nI (i + 1))), (6, .int (nI ((Δ.2.2 (rI y)) i).val)), (5, .int (nI ((Δ.2.2 (rI x)) i).val)), (0, .ref (kx L)), (1, .int (nI (rI x))), (2, .int (nI (rI y))), (3, .int z)]) dX2_combine_160 (q := 2) rfl (nI_1 _) (by decide) rfl ?_
                refine gGoto (pc := 163) hC (tgt := 73) dX2_combine_163 (by decide) ?_
                refine gLoc (lv' := [(4, .int (nI (i + 1))), (0, .ref (kx L)), (1, .int (nI (rI x))), (2, .int (nI (rI y))), (3, .int z)]) [0, 3, 4, 5, 6] rfl ?_
                exact ih (ν29) (hI.step eν29 (by rw [fr_a0]; unfold cmb; rw [if_neg hc27, if_neg hc28]))
              · skip
                refine gIload (pc := 135) hC dX2_combine_135 1 rfl ?_
                refine gIload (pc := 137) hC dX2_combine_137 0 rfl ?_
                refine gIsub (pc := 139) hC dX2_combine_139 rfl ?_
                refine gLdc (pc := 140) hC (v := 65537) dX2_combine_140 (by decide +kernel) ?_
                refine gIadd (pc := 142) hC dX2_combine_142 rfl ?_
                refine gLdc (pc := 143) hC (v := 65537) dX2_combine_143 (by decide +kernel) ?_
                refine gIrem (pc := 145) hC (v := (nI ((Δ.2.2 (rI x)) i - (Δ.2.2 (rI y)) i).val)) dX2_combine_145 (by decide) (j_sub2 ((Δ.2.2 (rI x)) i) ((Δ.2.2 (rI y)) i) rfl rfl) ?_
                refine gGoto (pc := 146) hC (tgt := 159) dX2_combine_146 (by decide) ?_
                obtain ⟨ν30, eν30⟩ : ∃ ζ : mSt, ζ = mMa ν1 (upd (mm ν1) i (nI ((Δ.2.2 (rI x)) i - (Δ.2.2 (rI y)) i).val)) := ⟨_, rfl⟩
                refine mMadSt (pc := 159) hC i (rfl) (by omega) eν30 dX2_combine_159 ?_
                refine gIinc (pc := 160) hC (v := (nI (i + 1))) (lv' := [(4, .int (nI (i + 1))), (6, .int (nI ((Δ.2.2 (rI y)) i).val)), (5, .int (nI ((Δ.2.2 (rI x)) i).val)), (0, .ref (kx L)), (1, .int (nI (rI x))), (2, .int (nI (rI y))), (3, .int z)]) dX2_combine_160 (q := 2) rfl (nI_1 _) (by decide) rfl ?_
                refine gGoto (pc := 163) hC (tgt := 73) dX2_combine_163 (by decide) ?_
                refine gLoc (lv' := [(4, .int (nI (i + 1))), (0, .ref (kx L)), (1, .int (nI (rI x))), (2, .int (nI (rI y))), (3, .int z)]) [0, 3, 4, 5, 6] rfl ?_
                exact ih (ν30) (hI.step eν30 (by unfold cmb; rw [if_neg hc27, if_pos hc28]))
            · skip
              refine gIload (pc := 118) hC dX2_combine_118 1 rfl ?_
              refine gIload (pc := 120) hC dX2_combine_120 0 rfl ?_
              refine gIadd (pc := 122) hC dX2_combine_122 rfl ?_
              refine gLdc (pc := 123) hC (v := 65537) dX2_combine_123 (by decide +kernel) ?_
              refine gIrem (pc := 125) hC (v := (nI ((Δ.2.2 (rI x)) i + (Δ.2.2 (rI y)) i).val)) dX2_combine_125 (by decide) (j_add ((Δ.2.2 (rI x)) i) ((Δ.2.2 (rI y)) i) rfl rfl) ?_
              refine gGoto (pc := 126) hC (tgt := 159) dX2_combine_126 (by decide) ?_
              obtain ⟨ν31, eν31⟩ : ∃ ζ : mSt, ζ = mMa ν1 (upd (mm ν1) i (nI ((Δ.2.2 (rI x)) i + (Δ.2.2 (rI y)) i).val)) := ⟨_, rfl⟩
              refine mMadSt (pc := 159) hC i (rfl) (by omega) eν31 dX2_combine_159 ?_
              refine gIinc (pc := 160) hC (v := (nI (i + 1))) (lv' := [(4, .int (nI (i + 1))), (6, .int (nI ((Δ.2.2 (rI y)) i).val)), (5, .int (nI ((Δ.2.2 (rI x)) i).val)), (0, .ref (kx L)), (1, .int (nI (rI x))), (2, .int (nI (rI y))), (3, .int z)]) dX2_combine_160 (q := 2) rfl (nI_1 _) (by decide) rfl ?_
              refine gGoto (pc := 163) hC (tgt := 73) dX2_combine_163 (by decide) ?_
              refine gLoc (lv' := [(4, .int (nI (i + 1))), (0, .ref (kx L)), (1, .int (nI (rI x))), (2, .int (nI (rI y))), (3, .int z)]) [0, 3, 4, 5, 6] rfl ?_
              exact ih (ν31) (hI.step eν31 (by unfold cmb; rw [if_pos hc27]))
      · skip
        refine gIloadN (pc := 22) hC dX2_combine_22 rfl 3 rfl ?_
        refine gBipush (pc := 23) hC (v := (nI 42)) dX2_combine_23 (by decide +kernel) ?_
        refine gIcmp_ne (pc := 25) hC (tgt := 32) dX2_combine_25 (by decide) (fun hc32 => ?_) (fun hc32 => ?_)
        · skip
          have noks : ¬ okS z := fun q => by rcases q with q | q | q; exact hc2 q; exact hc17 q; exact hc32 q
          refine gIconst (pc := 32) hC (v := (nI 0)) dX2_combine_32 (by decide +kernel) ?_
          refine gStk (st' := [.int (bI (okS z)), .ref (kx L)]) (pc' := 33) (by rw [bI_f noks]) rfl ?_
          refine gIconst (pc := 33) hC (v := (nI 2)) dX2_combine_33 (by decide +kernel) ?_
          refine gV (pc := 34) (rest := []) (ci := 2) (q0 := 0) hC (c_X2_no l D L (mTh μ (if (okR x ∧ okR y) then nI 0 else nI 1)) (okS z) (nI 2)) rfl rfl (cwV 2 hC.2.2.2.2.1 gX2_combine_X2_no rfl rfl rfl (by decide +kernel) ⟨Nat.le_of_ble_eq_true rfl, Nat.le_of_ble_eq_true rfl⟩) rfl rfl (Nat.le_of_ble_eq_true rfl) dX2_combine_34 ⟨Nat.le_of_ble_eq_true rfl, Nat.le_of_ble_eq_true rfl⟩ (fun v w1 hp => ?_)
          obtain ⟨rfl, rfl⟩ := hp
          refine gStk (st' := [.int (bI (¬ (okS z)))]) (pc' := 37) rfl rfl ?_
          refine gIf_ne (pc := 37) hC (tgt := 68) dX2_combine_37 (by decide) (fun hc33 => ?_) (fun hc33 => absurd hc33 (bI_n.mpr noks))
          refine gIconst (pc := 68) hC (v := (nI 0)) dX2_combine_68 (by decide +kernel) ?_
          exact gRetI hC hQ hr (Nat.le_of_ble_eq_true rfl) (Nat.le_of_ble_eq_true rfl) dX2_combine_69 (⟨_, rfl, _, rfl, by rw [kk3_2 ok noks]; exact thr_f noks, Or.inr ⟨kne (kk3_2 ok noks) ne2, hR⟩⟩)
        · skip
          have oks : okS z := Or.inr (Or.inr hc32)
          refine gIconst (pc := 28) hC (v := (nI 1)) dX2_combine_28 (by decide +kernel) ?_
          refine gGoto (pc := 29) hC (tgt := 33) dX2_combine_29 (by decide) ?_
          refine gStk (st' := [.int (bI (okS z)), .ref (kx L)]) (pc' := 33) (by rw [bI_t oks]) rfl ?_
          refine gIconst (pc := 33) hC (v := (nI 2)) dX2_combine_33 (by decide +kernel) ?_
          refine gV (pc := 34) (rest := []) (ci := 2) (q0 := 0) hC (c_X2_no l D L (mTh μ (if (okR x ∧ okR y) then nI 0 else nI 1)) (okS z) (nI 2)) rfl rfl (cwV 2 hC.2.2.2.2.1 gX2_combine_X2_no rfl rfl rfl (by decide +kernel) ⟨Nat.le_of_ble_eq_true rfl, Nat.le_of_ble_eq_true rfl⟩) rfl rfl (Nat.le_of_ble_eq_true rfl) dX2_combine_34 ⟨Nat.le_of_ble_eq_true rfl, Nat.le_of_ble_eq_true rfl⟩ (fun v w1 hp => ?_)
          obtain ⟨rfl, rfl⟩ := hp
          refine gStk (st' := [.int (bI (¬ (okS z)))]) (pc' := 37) rfl rfl ?_
          refine gIf_ne (pc := 37) hC (tgt := 68) dX2_combine_37 (by decide) (fun hc34 => absurd (bI_0.mpr (fun q => q oks)) hc34) (fun hc34 => ?_)
          obtain ⟨hi, ei⟩ := ok.1.get
          obtain ⟨hi2, ei2⟩ := ok.2.get
          have hle := hR.len hi
          have hle2 := hR.len hi2
          refine gAloadN (pc := 40) hC dX2_combine_40 rfl 0 rfl ?_
          refine gAloadN (pc := 41) hC dX2_combine_41 rfl 0 rfl ?_
          refine mGetArr (pc := 42) hC 1 (a := (kl L)) (by decide) ⟨rfl, rfl, rfl⟩ hin2 hl14 dX2_combine_42 ?_
          refine gIloadN (pc := 45) hC dX2_combine_45 rfl 1 rfl ?_
          refine mLenLd (pc := 46) hC (v := (nI (Δ.2.1 (rI x)))) (rI x) (ei) (hi) (hle) dX2_combine_46 ?_
          refine gAloadN (pc := 47) hC dX2_combine_47 rfl 0 rfl ?_
          refine mGetArr (pc := 48) hC 1 (a := (kl L)) (by decide) ⟨rfl, rfl, rfl⟩ hin2 hl14 dX2_combine_48 ?_
          refine gIloadN (pc := 51) hC dX2_combine_51 rfl 2 rfl ?_
          refine mLenLd (pc := 52) hC (v := (nI (Δ.2.1 (rI y)))) (rI y) (ei2) (hi2) (hle2) dX2_combine_52 ?_
          refine gIcmp_ne (pc := 53) hC (tgt := 60) dX2_combine_53 (by decide) (fun hc35 => ?_) (fun hc35 => ?_)
          · skip
            have noka : ¬ ((Δ.2.1 (rI x)) = (Δ.2.1 (rI y))) := fun q => hc35 ((len_eq hR hi hi2).mpr q)
            refine gIconst (pc := 60) hC (v := (nI 0)) dX2_combine_60 (by decide +kernel) ?_
            refine gStk (st' := [.int (bI ((Δ.2.1 (rI x)) = (Δ.2.1 (rI y)))), .ref (kx L)]) (pc' := 61) (by rw [bI_f noka]) rfl ?_
            refine gIconst (pc := 61) hC (v := (nI 3)) dX2_combine_61 (by decide +kernel) ?_
            refine gV (pc := 62) (rest := []) (ci := 2) (q0 := 0) hC (c_X2_no l D L (mTh μ (if (okS z) then nI 0 else nI 2)) ((Δ.2.1 (rI x)) = (Δ.2.1 (rI y))) (nI 3)) rfl rfl (cwV 2 hC.2.2.2.2.1 gX2_combine_X2_no rfl rfl rfl (by decide +kernel) ⟨Nat.le_of_ble_eq_true rfl, Nat.le_of_ble_eq_true rfl⟩) rfl rfl (Nat.le_of_ble_eq_true rfl) dX2_combine_62 ⟨Nat.le_of_ble_eq_true rfl, Nat.le_of_ble_eq_true rfl⟩ (fun v w1 hp => ?_)
            obtain ⟨rfl, rfl⟩ := hp
            refine gStk (st' := [.int (bI (¬ ((Δ.2.1 (rI x)) = (Δ.2.1 (rI y)))))]) (pc' := 65) rfl rfl ?_
            refine gIf_eq (pc := 65) hC (tgt := 70) dX2_combine_65 (by decide) (fun hc36 => absurd hc36 (bI_n.mpr noka)) (fun hc36 => ?_)
            refine gIconst (pc := 68) hC (v := (nI 0)) dX2_combine_68 (by decide +kernel) ?_
            exact gRetI hC hQ hr (Nat.le_of_ble_eq_true rfl) (Nat.le_of_ble_eq_true rfl) dX2_combine_69 (⟨_, rfl, _, rfl, by rw [kk3_3 ok oks noka]; exact thr_f noka, Or.inr ⟨kne (kk3_3 ok oks noka) ne3, hR⟩⟩)
          · skip
            have oka : ((Δ.2.1 (rI x)) = (Δ.2.1 (rI y))) := (len_eq hR hi hi2).mp hc35
            refine gIconst (pc := 56) hC (v := (nI 1)) dX2_combine_56 (by decide +kernel) ?_
            refine gGoto (pc := 57) hC (tgt := 61) dX2_combine_57 (by decide) ?_
            refine gStk (st' := [.int (bI ((Δ.2.1 (rI x)) = (Δ.2.1 (rI y)))), .ref (kx L)]) (pc' := 61) (by rw [bI_t oka]) rfl ?_
            refine gIconst (pc := 61) hC (v := (nI 3)) dX2_combine_61 (by decide +kernel) ?_
            refine gV (pc := 62) (rest := []) (ci := 2) (q0 := 0) hC (c_X2_no l D L (mTh μ (if (okS z) then nI 0 else nI 2)) ((Δ.2.1 (rI x)) = (Δ.2.1 (rI y))) (nI 3)) rfl rfl (cwV 2 hC.2.2.2.2.1 gX2_combine_X2_no rfl rfl rfl (by decide +kernel) ⟨Nat.le_of_ble_eq_true rfl, Nat.le_of_ble_eq_true rfl⟩) rfl rfl (Nat.le_of_ble_eq_true rfl) dX2_combine_62 ⟨Nat.le_of_ble_eq_true rfl, Nat.le_of_ble_eq_true rfl⟩ (fun v w1 hp => ?_)
            obtain ⟨rfl, rfl⟩ := hp
            refine gStk (st' := [.int (bI (¬ ((Δ.2.1 (rI x)) = (Δ.2.1 (rI y)))))]) (pc' := 65) rfl rfl ?_
            refine gIf_eq (pc := 65) hC (tgt := 70) dX2_combine_65 (by decide) (fun hc37 => ?_) (fun hc37 => absurd (bI_0.mpr (fun q => q oka)) hc37)
            obtain ⟨ν38, eν38, hRν38, htν38⟩ : ∃ ζ : mSt, ζ = (mTh μ (if ((Δ.2.1 (rI x)) = (Δ.2.1 (rI y))) then nI 0 else nI 3)) ∧ mRel ζ Δ ∧ mt ζ = nI (kk3 (okR x ∧ okR y) (okS z) ((Δ.2.1 (rI x)) = (Δ.2.1 (rI y)))) := ⟨_, rfl, hR, (by rw [kk3_0 ok oks oka]; exact thr_t oka)⟩
            refine gWs (ws' := WM L ν38) (by first | (rw [eν38]; done) | (rw [eν38]; rfl)) ?_
            obtain ⟨hi, ei⟩ := ok.1.get
            have hl_ := hRν38.okl hi
            have hle := hRν38.len hi
            have hF := hRν38.is hi
            have hz := hRν38.zer hi
            have hN := hl_.N
            have hL := hN.le
            have hp := hN.pos
            have hx39 : Value.int x = Value.int (nI (rI x)) := congrArg Value.int ei
            refine gLocE (lv' := [(0, .ref (kx L)), (1, .int (nI (rI x))), (2, .int y), (3, .int z)]) (by first | (rw [← hx39]; done) | (rw [← hx39]; rfl)) ?_
            obtain ⟨hi2, ei2⟩ := ok.2.get
            have hl2_ := hRν38.okl hi2
            have hle2 := hRν38.len hi2
            have hF2 := hRν38.is hi2
            have hz2 := hRν38.zer hi2
            have hN2 := hl2_.N
            have hL2 := hN2.le
            have hp2 := hN2.pos
            have hx40 : Value.int y = Value.int (nI (rI y)) := congrArg Value.int ei2
            refine gLocE (lv' := [(0, .ref (kx L)), (1, .int (nI (rI x))), (2, .int (nI (rI y))), (3, .int z)]) (by first | (rw [← hx40]; done) | (rw [← hx40]; rfl)) ?_
            have hG : mIs ν38 (rI y) (Δ.2.1 (rI x)) (Δ.2.2 (rI y)) := by rw [oka]; exact hF2
            refine gIconst (pc := 70) hC (v := (nI 0)) dX2_combine_70 (by decide +kernel) ?_
            refine gIstore (pc := 71) hC (lv' := [(4, .int (nI 0)), (0, .ref (kx L)), (1, .int (nI (rI x))), (2, .int (nI (rI y))), (3, .int z)]) dX2_combine_71 (by decide) rfl ?_
            refine gLoc (lv' := [(4, .int (nI 0)), (0, .ref (kx L)), (1, .int (nI (rI x))), (2, .int (nI (rI y))), (3, .int z)]) [0, 1, 2, 3, 4] rfl ?_
            refine loopUp (S := mSt) (fun i ζ => gG p l e rmX2_combine s m args below meth c D A 7 0 0 Q (WM L ζ) 73 [(4, .int (nI i)), (0, .ref (kx L)), (1, .int (nI (rI x))), (2, .int (nI (rI y))), (3, .int z)] []) (fun i ζ => mFill ν38 (cmb z (Δ.2.2 (rI x)) (Δ.2.2 (rI y))) i ζ) (Δ.2.1 (rI x)) ?_ ?_ 0 (ν38) (by omega) (mFill.zero ν38 _)
            · intro ζ hI
              revert hI; generalize ζ = ν1; intro hI
              have hF9 := hI.is hF
              have hle9 := hI.len hle
              refine gIload (pc := 73) hC dX2_combine_73 0 rfl ?_
              refine gAloadN (pc := 75) hC dX2_combine_75 rfl 1 rfl ?_
              refine mGetArr (pc := 76) hC 1 (a := (kl L)) (by decide) ⟨rfl, rfl, rfl⟩ hin2 hl14 dX2_combine_76 ?_
              refine gIloadN (pc := 79) hC dX2_combine_79 rfl 2 rfl ?_
              refine mLenLd (pc := 80) hC (v := (nI (Δ.2.1 (rI x)))) (rI x) (rfl) (hi) (hle9) dX2_combine_80 ?_
              refine gIcmp_ge (pc := 81) hC (tgt := 166) dX2_combine_81 (by decide) (fun hc41 => ?_) (fun hc41 => absurd (nI_le (Nat.le_refl _) (by omega)) hc41)
              have h1 := hI
              refine gAloadN (pc := 166) hC dX2_combine_166 rfl 1 rfl ?_
              refine gIloadN (pc := 167) hC dX2_combine_167 rfl 2 rfl ?_
              refine gV (pc := 168) (rest := []) (ci := 2) (q0 := 0) hC (c_X2_putZeros l D L ν1 (rI x) (Δ.2.1 (rI x)) (Δ.2.2 (rI x)) (cmb z (Δ.2.2 (rI x)) (Δ.2.2 (rI y))) hi (h1.len hle) (h1.is hF) h1.got (by omega)) rfl rfl (cwV 1 hC.2.2.2.2.1 gX2_combine_X2_putZeros rfl rfl rfl (by decide +kernel) ⟨Nat.le_of_ble_eq_true rfl, Nat.le_of_ble_eq_true rfl⟩) rfl rfl (Nat.le_of_ble_eq_true rfl) dX2_combine_168 ⟨Nat.le_of_ble_eq_true rfl, Nat.le_of_ble_eq_true rfl⟩ (fun v w1 hp => ?_)
              obtain ⟨rfl, ν2, rfl, h2⟩ := hp
              refine gStk (st' := [.int (nI (cz (cmb z (Δ.2.2 (rI x)) (Δ.2.2 (rI y))) (Δ.2.1 (rI x))))]) (pc' := 171) rfl rfl ?_
              exact gRetI hC hQ hr (Nat.le_of_ble_eq_true rfl) (Nat.le_of_ble_eq_true rfl) dX2_combine_171 (⟨_, rfl, _, rfl, (h2.thr.trans (h1.thr.trans htν38)), Or.inl ⟨(kk3_0 ok oks oka), rfl, mFill.relput hRν38 hi h1 h2⟩⟩)
            · intro i ζ hi9 hI ih
              revert hI; generalize ζ = ν1; intro hI
              have hF9 := hI.is hF
              have hle9 := hI.len hle
              refine gIload (pc := 73) hC dX2_combine_73 0 rfl ?_
              refine gAloadN (pc := 75) hC dX2_combine_75 rfl 1 rfl ?_
              refine mGetArr (pc := 76) hC 1 (a := (kl L)) (by decide) ⟨rfl, rfl, rfl⟩ hin2 hl14 dX2_combine_76 ?_
              refine gIloadN (pc := 79) hC dX2_combine_79 rfl 2 rfl ?_
              refine mLenLd (pc := 80) hC (v := (nI (Δ.2.1 (rI x)))) (rI x) (rfl) (hi) (hle9) dX2_combine_80 ?_
              refine gIcmp_ge (pc := 81) hC (tgt := 166) dX2_combine_81 (by decide) (fun hc42 => absurd hc42 (nI_ge hi9 (by omega))) (fun hc42 => ?_)
              have hG9 := hI.is hG
              refine gAloadN (pc := 84) hC dX2_combine_84 rfl 1 rfl ?_
              refine mGetArr (pc := 85) hC 0 (a := (kn L)) (by decide) ⟨rfl, rfl, rfl⟩ hin2 hl11 dX2_combine_85 ?_
              refine gIloadN (pc := 88) hC dX2_combine_88 rfl 2 rfl ?_
              refine mRowAld (pc := 89) hC (rI x) (rfl) (hi) dX2_combine_89 ?_
              refine gIload (pc := 90) hC dX2_combine_90 0 rfl ?_
              refine mNumLd (pc := 92) hC (K := (rI x)) (v := (nI ((Δ.2.2 (rI x)) i).val)) (by omega) i (rfl) (by omega) (hF9 _ (by omega)) dX2_combine_92 ?_
              refine gIstore (pc := 93) hC (lv' := [(5, .int (nI ((Δ.2.2 (rI x)) i).val)), (4, .int (nI i)), (0, .ref (kx L)), (1, .int (nI (rI x))), (2, .int (nI (rI y))), (3, .int z)]) dX2_combine_93 (by decide) rfl ?_
              refine gAloadN (pc := 95) hC dX2_combine_95 rfl 2 rfl ?_
              refine mGetArr (pc := 96) hC 0 (a := (kn L)) (by decide) ⟨rfl, rfl, rfl⟩ hin2 hl11 dX2_combine_96 ?_
              refine gIloadN (pc := 99) hC dX2_combine_99 rfl 4 rfl ?_
              refine mRowAld (pc := 100) hC (rI y) (rfl) (hi2) dX2_combine_100 ?_
              refine gIload (pc := 101) hC dX2_combine_101 1 rfl ?_
              refine mNumLd (pc := 103) hC (K := (rI y)) (v := (nI ((Δ.2.2 (rI y)) i).val)) (by omega) i (rfl) (by omega) (hG9 _ (by omega)) dX2_combine_103 ?_
              refine gIstore (pc := 104) hC (lv' := [(6, .int (nI ((Δ.2.2 (rI y)) i).val)), (5, .int (nI ((Δ.2.2 (rI x)) i).val)), (4, .int (nI i)), (0, .ref (kx L)), (1, .int (nI (rI x))), (2, .int (nI (rI y))), (3, .int z)]) dX2_combine_104 (by decide) rfl ?_
              refine gAloadN (pc := 106) hC dX2_combine_106 rfl 3 rfl ?_
              refine mGetArr (pc := 107) hC 2 (a := (km L)) (by decide) ⟨rfl, rfl, rfl⟩ hin2 hl18 dX2_combine_107 ?_
              refine gIload (pc := 110) hC dX2_combine_110 2 rfl ?_
              refine gIloadN (pc := 112) hC dX2_combine_112 rfl 6 rfl ?_
              refine gBipush (pc := 113) hC (v := (nI 43)) dX2_combine_113 (by decide +kernel) ?_
              refine gIcmp_ne (pc := 115) hC (tgt := 129) dX2_combine_115 (by decide) (fun hc43 => ?_) (fun hc43 => ?_)
              · skip
                refine gIloadN (pc := 129) hC dX2_combine_129 rfl 6 rfl ?_
                refine gBipush (pc := 130) hC (v := (nI 45)) dX2_combine_130 (by decide +kernel) ?_
                refine gIcmp_ne (pc := 132) hC (tgt := 149) dX2_combine_132 (by decide) (fun hc44 => ?_) (fun hc44 => ?_)
                · skip
                  refine gIload (pc := 149) hC dX2_combine_149 1 rfl ?_
                  refine gI2l (pc := 151) hC (v := (lN ((Δ.2.2 (rI x)) i).val)) dX2_combine_151 (nI_l (by have := ((Δ.2.2 (rI x)) i).isLt; omega)) ?_
                  refine gIload (pc := 152) hC dX2_combine_152 0 rfl ?_
                  refine gI2l (pc := 154) hC (v := (lN ((Δ.2.2 (rI y)) i).val)) dX2_combine_154 (nI_l (by have := ((Δ.2.2 (rI y)) i).isLt; omega)) ?_
                  refine gIconst (pc := 155) hC (v := (nI 0)) dX2_combine_155 (by decide +kernel) ?_
                  refine gS (pc := 156) (rest := [.int (nI i), .ref (km L)]) hC (c_X2_product l D _ _ _ _ _ ((Δ.2.2 (rI x)) i) ((Δ.2.2 (rI y)) i) 0 rfl rfl rfl) (va_cwS 3 hC.2.2.2.2.1 gX2_combine_X2_product rfl rfl rfl (by decide +kernel) ⟨Nat.le_of_ble_eq_true rfl, Nat.le_of_ble_eq_true rfl⟩) rfl rfl (Nat.le_of_ble_eq_true rfl) dX2_combine_156 ⟨Nat.le_of_ble_eq_true rfl, Nat.le_of_ble_eq_true rfl⟩ (fun v w1 hp => ?_)
                  obtain ⟨rfl, rfl⟩ := hp
                  refine gStk (st' := [.int (nI ((Δ.2.2 (rI x)) i * (Δ.2.2 (rI y)) i + 0).val), .int (nI i), .ref (km L)]) (pc' := 159) rfl rfl ?_
                  obtain ⟨ν45, eν45⟩ : ∃ ζ : mSt, ζ = mMa ν1 (upd (mm ν1) i (nI ((Δ.2.2 (rI x)) i * (Δ.2.2 (rI y)) i + 0).val)) := ⟨_, rfl⟩
                  refine mMadSt (pc := 159) hC i (rfl) (by omega) eν45 dX2_combine_159 ?_
                  refine gIinc (pc := 160) hC (v := (nI (i + 1))) (lv' := [(4, .int (nI (i + 1))), (6, .int (nI ((Δ.2.2 (rI y)) i).val)), (5, .int (nI ((Δ.2.2 (rI x)) i).val)), (0, .ref (kx L)), (1, .int (nI (rI x))), (2, .int (nI (rI y))), (3, .int z)]) dX2_combine_160 (q := 2) rfl (nI_1 _) (by decide) rfl ?_
                  refine gGoto (pc := 163) hC (tgt := 73) dX2_combine_163 (by decide) ?_
                  refine gLoc (lv' := [(4, .int (nI (i + 1))), (0, .ref (kx L)), (1, .int (nI (rI x))), (2, .int (nI (rI y))), (3, .int z)]) [0, 3, 4, 5, 6] rfl ?_
                  exact ih (ν45) (hI.step eν45 (by rw [fr_a0]; unfold cmb; rw [if_neg hc43, if_neg hc44]))
                · skip
                  refine gIload (pc := 135) hC dX2_combine_135 1 rfl ?_
                  refine gIload (pc := 137) hC dX2_combine_137 0 rfl ?_
                  refine gIsub (pc := 139) hC dX2_combine_139 rfl ?_
                  refine gLdc (pc := 140) hC (v := 65537) dX2_combine_140 (by decide +kernel) ?_
                  refine gIadd (pc := 142) hC dX2_combine_142 rfl ?_
                  refine gLdc (pc := 143) hC (v := 65537) dX2_combine_143 (by decide +kernel) ?_
                  refine gIrem (pc := 145) hC (v := (nI ((Δ.2.2 (rI x)) i - (Δ.2.2 (rI y)) i).val)) dX2_combine_145 (by decide) (j_sub2 ((Δ.2.2 (rI x)) i) ((Δ.2.2 (rI y)) i) rfl rfl) ?_
                  refine gGoto (pc := 146) hC (tgt := 159) dX2_combine_146 (by decide) ?_
                  obtain ⟨ν46, eν46⟩ : ∃ ζ : mSt, ζ = mMa ν1 (upd (mm ν1) i (nI ((Δ.2.2 (rI x)) i - (Δ.2.2 (rI y)) i).val)) := ⟨_, rfl⟩
                  refine mMadSt (pc := 159) hC i (rfl) (by omega) eν46 dX2_combine_159 ?_
                  refine gIinc (pc := 160) hC (v := (nI (i + 1))) (lv' := [(4, .int (nI (i + 1))), (6, .int (nI ((Δ.2.2 (rI y)) i).val)), (5, .int (nI ((Δ.2.2 (rI x)) i).val)), (0, .ref (kx L)), (1, .int (nI (rI x))), (2, .int (nI (rI y))), (3, .int z)]) dX2_combine_160 (q := 2) rfl (nI_1 _) (by decide) rfl ?_
                  refine gGoto (pc := 163) hC (tgt := 73) dX2_combine_163 (by decide) ?_
                  refine gLoc (lv' := [(4, .int (nI (i + 1))), (0, .ref (kx L)), (1, .int (nI (rI x))), (2, .int (nI (rI y))), (3, .int z)]) [0, 3, 4, 5, 6] rfl ?_
                  exact ih (ν46) (hI.step eν46 (by unfold cmb; rw [if_neg hc43, if_pos hc44]))
              · skip
                refine gIload (pc := 118) hC dX2_combine_118 1 rfl ?_
                refine gIload (pc := 120) hC dX2_combine_120 0 rfl ?_
                refine gIadd (pc := 122) hC dX2_combine_122 rfl ?_
                refine gLdc (pc := 123) hC (v := 65537) dX2_combine_123 (by decide +kernel) ?_
                refine gIrem (pc := 125) hC (v := (nI ((Δ.2.2 (rI x)) i + (Δ.2.2 (rI y)) i).val)) dX2_combine_125 (by decide) (j_add ((Δ.2.2 (rI x)) i) ((Δ.2.2 (rI y)) i) rfl rfl) ?_
                refine gGoto (pc := 126) hC (tgt := 159) dX2_combine_126 (by decide) ?_
                obtain ⟨ν47, eν47⟩ : ∃ ζ : mSt, ζ = mMa ν1 (upd (mm ν1) i (nI ((Δ.2.2 (rI x)) i + (Δ.2.2 (rI y)) i).val)) := ⟨_, rfl⟩
                refine mMadSt (pc := 159) hC i (rfl) (by omega) eν47 dX2_combine_159 ?_
                refine gIinc (pc := 160) hC (v := (nI (i + 1))) (lv' := [(4, .int (nI (i + 1))), (6, .int (nI ((Δ.2.2 (rI y)) i).val)), (5, .int (nI ((Δ.2.2 (rI x)) i).val)), (0, .ref (kx L)), (1, .int (nI (rI x))), (2, .int (nI (rI y))), (3, .int z)]) dX2_combine_160 (q := 2) rfl (nI_1 _) (by decide) rfl ?_
                refine gGoto (pc := 163) hC (tgt := 73) dX2_combine_163 (by decide) ?_
                refine gLoc (lv' := [(4, .int (nI (i + 1))), (0, .ref (kx L)), (1, .int (nI (rI x))), (2, .int (nI (rI y))), (3, .int z)]) [0, 3, 4, 5, 6] rfl ?_
                exact ih (ν47) (hI.step eν47 (by unfold cmb; rw [if_pos hc43]))

abbrev rmX2_shift : Room := { frames := 2, cells := 0, slots := 0, locals := 43 }
set_option maxRecDepth 100000 in
set_option maxHeartbeats 4000000 in
theorem c_X2_shift (l : Launch) (D : va_G) (L : mLay) (μ : mSt) (Δ : dSt) (x : Int32) (y : Int32) (hR : mRel μ Δ) : gM l yX2_shift wsX2_shift rmX2_shift D (mTy L) (WM L μ) [.ref (kx L), .int x, .int y] 0 0 (fun r w => mPost L Δ (dRow Δ (rI x) (Δ.2.1 (rI x)) (fun i => (Δ.2.2 (rI x)) (ix (Δ.2.1 (rI x)) ((i : Int) - y.toInt)))) (kk1 (okR x)) (fun b => b = nI ((fun i => (Δ.2.2 (rI x)) (ix (Δ.2.1 (rI x)) ((i : Int) - y.toInt))) 0).val) r w) := by
  refine gM.of (cc := cX2_shift) (maxL := 5) (ret := (some .int)) (own := RX2) (by decide) rfl rfl (Nat.le_of_ble_eq_true rfl) rfl ?_
  intro p e s m args below meth c A Q hC hr hnm hQ
  have hin2 : ∀ w ∈ u_ws RX2 TX2 6, w ∈ wsX2_shift := by decide +kernel
  have hl11 : Cond.fieldLink RX2 11 "RootrowsModel" "numbers" "[[I" ∈ wsX2_shift := by decide +kernel
  have hl14 : Cond.fieldLink RX2 14 "RootrowsModel" "lengths" "[I" ∈ wsX2_shift := by decide +kernel
  have hl18 : Cond.fieldLink RX2 18 "RootrowsModel" "made" "[I" ∈ wsX2_shift := by decide +kernel
  refine gAloadN (pc := 0) hC dX2_shift_0 rfl 0 rfl ?_
  refine gIloadN (pc := 1) hC dX2_shift_1 rfl 1 rfl ?_
  refine gV (pc := 2) (rest := []) (ci := 2) (q0 := 0) hC (c_X2_lacks l D L μ x) rfl rfl (cwV 1 hC.2.2.2.2.1 gX2_shift_X2_lacks rfl rfl rfl (by decide +kernel) ⟨Nat.le_of_ble_eq_true rfl, Nat.le_of_ble_eq_true rfl⟩) rfl rfl (Nat.le_of_ble_eq_true rfl) dX2_shift_2 ⟨Nat.le_of_ble_eq_true rfl, Nat.le_of_ble_eq_true rfl⟩ (fun v w1 hp => ?_)
  obtain ⟨rfl, rfl⟩ := hp
  refine gStk (st' := [.int (bI (¬ (okR x)))]) (pc' := 5) rfl rfl ?_
  refine gIf_eq (pc := 5) hC (tgt := 10) dX2_shift_5 (by decide) (fun hc1 => ?_) (fun hc1 => ?_)
  · skip
    have ok : okR x := nn (bI_0.mp hc1)
    obtain ⟨ν2, eν2, hRν2, htν2⟩ : ∃ ζ : mSt, ζ = (mTh μ (if okR x then nI 0 else nI 1)) ∧ mRel ζ Δ ∧ mt ζ = nI (kk1 (okR x)) := ⟨_, rfl, hR, (by rw [kk1_0 ok]; exact thr_t ok)⟩
    refine gWs (ws' := WM L ν2) (by first | (rw [eν2]; done) | (rw [eν2]; rfl)) ?_
    obtain ⟨hi, ei⟩ := ok.get
    have hl_ := hRν2.okl hi
    have hle := hRν2.len hi
    have hF := hRν2.is hi
    have hz := hRν2.zer hi
    have hN := hl_.N
    have hL := hN.le
    have hp := hN.pos
    have hx3 : Value.int x = Value.int (nI (rI x)) := congrArg Value.int ei
    refine gLocE (lv' := [(0, .ref (kx L)), (1, .int (nI (rI x))), (2, .int y)]) (by first | (rw [← hx3]; done) | (rw [← hx3]; rfl)) ?_
    refine gAloadN (pc := 10) hC dX2_shift_10 rfl 0 rfl ?_
    refine mGetArr (pc := 11) hC 1 (a := (kl L)) (by decide) ⟨rfl, rfl, rfl⟩ hin2 hl14 dX2_shift_11 ?_
    refine gIloadN (pc := 14) hC dX2_shift_14 rfl 1 rfl ?_
    refine mLenLd (pc := 15) hC (v := (nI (Δ.2.1 (rI x)))) (rI x) (rfl) (hi) (hle) dX2_shift_15 ?_
    refine gIstoreN (pc := 16) hC (lv' := [(3, .int (nI (Δ.2.1 (rI x)))), (0, .ref (kx L)), (1, .int (nI (rI x))), (2, .int y)]) dX2_shift_16 rfl (by decide) rfl ?_
    refine gIconst (pc := 17) hC (v := (nI 0)) dX2_shift_17 (by decide +kernel) ?_
    refine gIstore (pc := 18) hC (lv' := [(4, .int (nI 0)), (3, .int (nI (Δ.2.1 (rI x)))), (0, .ref (kx L)), (1, .int (nI (rI x))), (2, .int y)]) dX2_shift_18 (by decide) rfl ?_
    refine gLoc (lv' := [(4, .int (nI 0)), (3, .int (nI (Δ.2.1 (rI x)))), (0, .ref (kx L)), (1, .int (nI (rI x))), (2, .int y)]) [0, 1, 2, 3, 4] rfl ?_
    refine loopUp (S := mSt) (fun i ζ => gG p l e rmX2_shift s m args below meth c D A 5 0 0 Q (WM L ζ) 20 [(4, .int (nI i)), (3, .int (nI (Δ.2.1 (rI x)))), (0, .ref (kx L)), (1, .int (nI (rI x))), (2, .int y)] []) (fun i ζ => mScat ν2 (Δ.2.1 (rI x)) (Δ.2.2 (rI x)) y.toInt i ζ) (Δ.2.1 (rI x)) ?_ ?_ 0 (ν2) (by omega) (mScat.zero ν2 _ _ _)
    · intro ζ hI
      revert hI; generalize ζ = ν1; intro hI
      have h1 := hI.fill hp
      have hF9 := hI.is hF
      have hle9 := hI.len hle
      refine gIload (pc := 20) hC dX2_shift_20 0 rfl ?_
      refine gIloadN (pc := 22) hC dX2_shift_22 rfl 1 rfl ?_
      refine gIcmp_ge (pc := 23) hC (tgt := 56) dX2_shift_23 (by decide) (fun hc4 => ?_) (fun hc4 => absurd (nI_le (Nat.le_refl _) (by omega)) hc4)
      refine gAloadN (pc := 56) hC dX2_shift_56 rfl 2 rfl ?_
      refine gIloadN (pc := 57) hC dX2_shift_57 rfl 3 rfl ?_
      refine gV (pc := 58) (rest := []) (ci := 2) (q0 := 0) hC (c_X2_put l D L ν1 (rI x) (Δ.2.1 (rI x)) (Δ.2.2 (rI x)) (fun i => (Δ.2.2 (rI x)) (ix (Δ.2.1 (rI x)) ((i : Int) - y.toInt))) hi (h1.len hle) (h1.is hF) h1.got (by omega)) rfl rfl (cwV 1 hC.2.2.2.2.1 gX2_shift_X2_put rfl rfl rfl (by decide +kernel) ⟨Nat.le_of_ble_eq_true rfl, Nat.le_of_ble_eq_true rfl⟩) rfl rfl (Nat.le_of_ble_eq_true rfl) dX2_shift_58 ⟨Nat.le_of_ble_eq_true rfl, Nat.le_of_ble_eq_true rfl⟩ (fun v w1 hp => ?_)
      obtain ⟨rfl, ν2, rfl, h2⟩ := hp
      refine gStk (st' := [.int (nI (cd (Δ.2.2 (rI x)) (fun i => (Δ.2.2 (rI x)) (ix (Δ.2.1 (rI x)) ((i : Int) - y.toInt))) (Δ.2.1 (rI x))))]) (pc' := 61) rfl rfl ?_
      have h22 : 2 ≤ (Δ.2.1 (rI x)) := by rcases hl_ with h | h | h | h <;> omega
      refine gPop (pc := 61) hC dX2_shift_61 rfl ?_
      refine gAloadN (pc := 62) hC dX2_shift_62 rfl 2 rfl ?_
      refine mGetArr (pc := 63) hC 0 (a := (kn L)) (by decide) ⟨rfl, rfl, rfl⟩ hin2 hl11 dX2_shift_63 ?_
      refine gIloadN (pc := 66) hC dX2_shift_66 rfl 3 rfl ?_
      refine mRowAld (pc := 67) hC (rI x) (rfl) (hi) dX2_shift_67 ?_
      refine gIconst (pc := 68) hC (v := (nI 0)) dX2_shift_68 (by decide +kernel) ?_
      refine mNumLd (pc := 69) hC (K := (rI x)) (v := (nI ((fun i => (Δ.2.2 (rI x)) (ix (Δ.2.1 (rI x)) ((i : Int) - y.toInt))) 0).val)) (by omega) 0 (rfl) (by omega) (h2.is _ (by omega)) dX2_shift_69 ?_
      exact gRetI hC hQ hr (Nat.le_of_ble_eq_true rfl) (Nat.le_of_ble_eq_true rfl) dX2_shift_70 (⟨_, rfl, _, rfl, (h2.thr.trans (h1.thr.trans htν2)), Or.inl ⟨(kk1_0 ok), rfl, mFill.relput hRν2 hi h1 h2⟩⟩)
    · intro i ζ hi9 hI ih
      revert hI; generalize ζ = ν1; intro hI
      have hF9 := hI.is hF
      have hle9 := hI.len hle
      refine gIload (pc := 20) hC dX2_shift_20 0 rfl ?_
      refine gIloadN (pc := 22) hC dX2_shift_22 rfl 1 rfl ?_
      refine gIcmp_ge (pc := 23) hC (tgt := 56) dX2_shift_23 (by decide) (fun hc5 => absurd hc5 (nI_ge hi9 (by omega))) (fun hc5 => ?_)
      refine gAloadN (pc := 26) hC dX2_shift_26 rfl 2 rfl ?_
      refine mGetArr (pc := 27) hC 2 (a := (km L)) (by decide) ⟨rfl, rfl, rfl⟩ hin2 hl18 dX2_shift_27 ?_
      refine gIload (pc := 30) hC dX2_shift_30 0 rfl ?_
      refine gI2l (pc := 32) hC dX2_shift_32 rfl ?_
      refine gIloadN (pc := 33) hC dX2_shift_33 rfl 4 rfl ?_
      refine gI2l (pc := 34) hC dX2_shift_34 rfl ?_
      refine gLadd (pc := 35) hC dX2_shift_35 rfl ?_
      refine gIloadN (pc := 36) hC dX2_shift_36 rfl 1 rfl ?_
      refine gS (pc := 37) (rest := [.ref (km L)]) hC (c_X2_left l D _ _ _ (Δ.2.1 (rI x)) ((i : Int) + y.toInt) hN (m_addL y (by omega))) (va_cwS 2 hC.2.2.2.2.1 gX2_shift_X2_left rfl rfl rfl (by decide +kernel) ⟨Nat.le_of_ble_eq_true rfl, Nat.le_of_ble_eq_true rfl⟩) rfl rfl (Nat.le_of_ble_eq_true rfl) dX2_shift_37 ⟨Nat.le_of_ble_eq_true rfl, Nat.le_of_ble_eq_true rfl⟩ (fun v w1 hp => ?_)
      obtain ⟨rfl, rfl⟩ := hp
      refine gStk (st' := [.int (nI (ix (Δ.2.1 (rI x)) ((i : Int) + y.toInt))), .ref (km L)]) (pc' := 40) rfl rfl ?_
      have hx := ix_lt hp ((i : Int) + y.toInt)
      refine gAloadN (pc := 40) hC dX2_shift_40 rfl 2 rfl ?_
      refine mGetArr (pc := 41) hC 0 (a := (kn L)) (by decide) ⟨rfl, rfl, rfl⟩ hin2 hl11 dX2_shift_41 ?_
      refine gIloadN (pc := 44) hC dX2_shift_44 rfl 3 rfl ?_
      refine mRowAld (pc := 45) hC (rI x) (rfl) (hi) dX2_shift_45 ?_
      refine gIload (pc := 46) hC dX2_shift_46 0 rfl ?_
      refine mNumLd (pc := 48) hC (K := (rI x)) (v := (nI ((Δ.2.2 (rI x)) i).val)) (by omega) i (rfl) (by omega) (hF9 _ (by omega)) dX2_shift_48 ?_
      obtain ⟨ν6, eν6⟩ : ∃ ζ : mSt, ζ = mMa ν1 (upd (mm ν1) (ix (Δ.2.1 (rI x)) ((i : Int) + y.toInt)) (nI ((Δ.2.2 (rI x)) i).val)) := ⟨_, rfl⟩
      refine mMadSt (pc := 49) hC (ix (Δ.2.1 (rI x)) ((i : Int) + y.toInt)) (rfl) (by omega) eν6 dX2_shift_49 ?_
      refine gIinc (pc := 50) hC (v := (nI (i + 1))) (lv' := [(4, .int (nI (i + 1))), (3, .int (nI (Δ.2.1 (rI x)))), (0, .ref (kx L)), (1, .int (nI (rI x))), (2, .int y)]) dX2_shift_50 (q := 0) rfl (nI_1 _) (by decide) rfl ?_
      refine gGoto (pc := 53) hC (tgt := 20) dX2_shift_53 (by decide) ?_
      refine gLoc (lv' := [(4, .int (nI (i + 1))), (3, .int (nI (Δ.2.1 (rI x)))), (0, .ref (kx L)), (1, .int (nI (rI x))), (2, .int y)]) [0, 1, 2, 3, 4] rfl ?_
      exact ih (ν6) (hI.step hi9 eν6 rfl)
  · skip
    have nok : ¬ (okR x) := bI_n.mp hc1
    refine gIconst (pc := 8) hC (v := (nI 0)) dX2_shift_8 (by decide +kernel) ?_
    exact gRetI hC hQ hr (Nat.le_of_ble_eq_true rfl) (Nat.le_of_ble_eq_true rfl) dX2_shift_9 (⟨_, rfl, _, rfl, by rw [kk1_1 nok]; exact thr_f nok, Or.inr ⟨kne (kk1_1 nok) ne1, hR⟩⟩)

abbrev rmX2_product_ : Room := { frames := 0, cells := 0, slots := 0, locals := 0 }
set_option maxRecDepth 100000 in
set_option maxHeartbeats 4000000 in
theorem c_X2_product_ (l : Launch) (D : va_G) (L : mLay) (μ : mSt) (Δ : dSt) (x : Int32) (y : Int32) (hR : mRel μ Δ) : gM l yX2_product_ wsX2_product_ rmX2_product_ D (mTy L) (WM L μ) [.ref (kx L), .int x, .int y] 0 0 (fun r w => ∃ b : Int64, r = some (.long b) ∧ ∃ μ', w = WM L μ' ∧ (mRel μ' Δ ∧ b = lN (x.toBitVec.toNat * y.toBitVec.toNat))) := by
  refine gM.of (cc := cX2_product_) (maxL := 3) (ret := (some .long)) (own := RX2) (by decide) rfl rfl (Nat.le_of_ble_eq_true rfl) rfl ?_
  intro p e s m args below meth c A Q hC hr hnm hQ
  refine gIloadN (pc := 0) hC dX2_product__0 rfl 1 rfl ?_
  refine gI2l (pc := 1) hC dX2_product__1 rfl ?_
  refine gLdc2 (pc := 2) hC (v := 4294967295) dX2_product__2 (by decide +kernel) ?_
  refine gLand (pc := 5) hC (v := (lN x.toBitVec.toNat)) dX2_product__5 (m_u32 x) ?_
  refine gIloadN (pc := 6) hC dX2_product__6 rfl 2 rfl ?_
  refine gI2l (pc := 7) hC dX2_product__7 rfl ?_
  refine gLdc2 (pc := 8) hC (v := 4294967295) dX2_product__8 (by decide +kernel) ?_
  refine gLand (pc := 11) hC (v := (lN y.toBitVec.toNat)) dX2_product__11 (m_u32 y) ?_
  refine gLmul (pc := 12) hC (v := (lN (x.toBitVec.toNat * y.toBitVec.toNat))) dX2_product__12 (by rw [lN_mul]) ?_
  exact gRetL hC hQ hr (Nat.le_of_ble_eq_true rfl) (Nat.le_of_ble_eq_true rfl) dX2_product__13 (⟨_, rfl, _, rfl, hR, rfl⟩)

abbrev rmX2_digits : Room := { frames := 2, cells := 0, slots := 0, locals := 43 }
set_option maxRecDepth 100000 in
set_option maxHeartbeats 4000000 in
theorem c_X2_digits (l : Launch) (D : va_G) (L : mLay) (μ : mSt) (Δ : dSt) (x : Int32) (y : Int32) (hR : mRel μ Δ) : gM l yX2_digits wsX2_digits rmX2_digits D (mTy L) (WM L μ) [.ref (kx L), .int x, .int y] 0 0 (fun r w => mPost L Δ (dRow Δ (rI x) 16 (dg y)) (kk1 (okR x)) (fun b => b = nI (16 - cz (dg y) 16)) r w) := by
  refine gM.of (cc := cX2_digits) (maxL := 4) (ret := (some .int)) (own := RX2) (by decide) rfl rfl (Nat.le_of_ble_eq_true rfl) rfl ?_
  intro p e s m args below meth c A Q hC hr hnm hQ
  have hin2 : ∀ w ∈ u_ws RX2 TX2 6, w ∈ wsX2_digits := by decide +kernel
  have hl11 : Cond.fieldLink RX2 11 "RootrowsModel" "numbers" "[[I" ∈ wsX2_digits := by decide +kernel
  have hl14 : Cond.fieldLink RX2 14 "RootrowsModel" "lengths" "[I" ∈ wsX2_digits := by decide +kernel
  refine gAloadN (pc := 0) hC dX2_digits_0 rfl 0 rfl ?_
  refine gIloadN (pc := 1) hC dX2_digits_1 rfl 1 rfl ?_
  refine gV (pc := 2) (rest := []) (ci := 2) (q0 := 0) hC (c_X2_lacks l D L μ x) rfl rfl (cwV 1 hC.2.2.2.2.1 gX2_digits_X2_lacks rfl rfl rfl (by decide +kernel) ⟨Nat.le_of_ble_eq_true rfl, Nat.le_of_ble_eq_true rfl⟩) rfl rfl (Nat.le_of_ble_eq_true rfl) dX2_digits_2 ⟨Nat.le_of_ble_eq_true rfl, Nat.le_of_ble_eq_true rfl⟩ (fun v w1 hp => ?_)
  obtain ⟨rfl, rfl⟩ := hp
  refine gStk (st' := [.int (bI (¬ (okR x)))]) (pc' := 5) rfl rfl ?_
  refine gIf_eq (pc := 5) hC (tgt := 10) dX2_digits_5 (by decide) (fun hc1 => ?_) (fun hc1 => ?_)
  · skip
    have ok : okR x := nn (bI_0.mp hc1)
    obtain ⟨ν2, eν2, hRν2, htν2⟩ : ∃ ζ : mSt, ζ = (mTh μ (if okR x then nI 0 else nI 1)) ∧ mRel ζ Δ ∧ mt ζ = nI (kk1 (okR x)) := ⟨_, rfl, hR, (by rw [kk1_0 ok]; exact thr_t ok)⟩
    refine gWs (ws' := WM L ν2) (by first | (rw [eν2]; done) | (rw [eν2]; rfl)) ?_
    obtain ⟨hi, ei⟩ := ok.get
    have hl_ := hRν2.okl hi
    have hle := hRν2.len hi
    have hF := hRν2.is hi
    have hz := hRν2.zer hi
    have hN := hl_.N
    have hL := hN.le
    have hp := hN.pos
    have hx3 : Value.int x = Value.int (nI (rI x)) := congrArg Value.int ei
    refine gLocE (lv' := [(0, .ref (kx L)), (1, .int (nI (rI x))), (2, .int y)]) (by first | (rw [← hx3]; done) | (rw [← hx3]; rfl)) ?_
    refine gAloadN (pc := 10) hC dX2_digits_10 rfl 0 rfl ?_
    refine mGetArr (pc := 11) hC 1 (a := (kl L)) (by decide) ⟨rfl, rfl, rfl⟩ hin2 hl14 dX2_digits_11 ?_
    refine gIloadN (pc := 14) hC dX2_digits_14 rfl 1 rfl ?_
    refine gBipush (pc := 15) hC (v := (nI 16)) dX2_digits_15 (by decide +kernel) ?_
    obtain ⟨ν4, eν4⟩ : ∃ ζ : mSt, ζ = mLe ν2 (upd (ml ν2) (rI x) (nI 16)) := ⟨_, rfl⟩
    refine mLenSt (pc := 17) hC (rI x) (rfl) (hi) eν4 dX2_digits_17 ?_
    refine gIconst (pc := 18) hC (v := (nI 0)) dX2_digits_18 (by decide +kernel) ?_
    refine gIstoreN (pc := 19) hC (lv' := [(3, .int (nI 0)), (0, .ref (kx L)), (1, .int (nI (rI x))), (2, .int y)]) dX2_digits_19 rfl (by decide) rfl ?_
    refine gLoc (lv' := [(3, .int (nI 0)), (0, .ref (kx L)), (1, .int (nI (rI x))), (2, .int y)]) [0, 1, 2, 3] rfl ?_
    refine loopUp (S := mSt) (fun i ζ => gG p l e rmX2_digits s m args below meth c D A 4 0 0 Q (WM L ζ) 20 [(3, .int (nI i)), (0, .ref (kx L)), (1, .int (nI (rI x))), (2, .int y)] []) (fun i ζ => mPut ν4 (rI x) (dg y) i ζ) 16 ?_ ?_ 0 (ν4) (by omega) (mPut.zero ν4 _ _)
    · intro ζ hI
      revert hI; generalize ζ = ν1; intro hI
      refine gIloadN (pc := 20) hC dX2_digits_20 rfl 0 rfl ?_
      refine gBipush (pc := 21) hC (v := (nI 16)) dX2_digits_21 (by decide +kernel) ?_
      refine gIcmp_ge (pc := 23) hC (tgt := 58) dX2_digits_23 (by decide) (fun hc5 => ?_) (fun hc5 => absurd (nI_le (Nat.le_refl _) (by decide)) hc5)
      refine gBipush (pc := 58) hC (v := (nI 16)) dX2_digits_58 (by decide +kernel) ?_
      refine gAloadN (pc := 60) hC dX2_digits_60 rfl 1 rfl ?_
      refine gIloadN (pc := 61) hC dX2_digits_61 rfl 2 rfl ?_
      refine gV (pc := 62) (rest := [.int (nI 16)]) (ci := 2) (q0 := 0) hC (c_X2_zerosOf l D L ν1 (rI x) 16 (dg y) hi (hI.len (by rw [eν4]; exact upd_at _ _ _)) hI.is (by decide)) rfl rfl (cwV 1 hC.2.2.2.2.1 gX2_digits_X2_zerosOf rfl rfl rfl (by decide +kernel) ⟨Nat.le_of_ble_eq_true rfl, Nat.le_of_ble_eq_true rfl⟩) rfl rfl (Nat.le_of_ble_eq_true rfl) dX2_digits_62 ⟨Nat.le_of_ble_eq_true rfl, Nat.le_of_ble_eq_true rfl⟩ (fun v w1 hp => ?_)
      obtain ⟨rfl, rfl⟩ := hp
      refine gStk (st' := [.int (nI (cz (dg y) 16)), .int (nI 16)]) (pc' := 65) rfl rfl ?_
      refine gIsub (pc := 65) hC (v := (nI (16 - cz (dg y) 16))) dX2_digits_65 (pk_sub (cz_le _ _)) ?_
      exact gRetI hC hQ hr (Nat.le_of_ble_eq_true rfl) (Nat.le_of_ble_eq_true rfl) dX2_digits_66 (⟨_, rfl, _, rfl, by rw [hI.thr, eν4]; exact htν2, Or.inl ⟨(kk1_0 ok), rfl, by obtain ⟨f, e, hf, -⟩ := hI; exact mRel_new hRν2 (f := f) (by rw [e, eν4]) (by unfold okL; omega) hf (fun j h1 h2 => absurd h2 (by omega))⟩⟩)
    · intro i ζ hi9 hI ih
      revert hI; generalize ζ = ν1; intro hI
      refine gIloadN (pc := 20) hC dX2_digits_20 rfl 0 rfl ?_
      refine gBipush (pc := 21) hC (v := (nI 16)) dX2_digits_21 (by decide +kernel) ?_
      refine gIcmp_ge (pc := 23) hC (tgt := 58) dX2_digits_23 (by decide) (fun hc6 => absurd hc6 (nI_ge hi9 (by decide))) (fun hc6 => ?_)
      refine gAloadN (pc := 26) hC dX2_digits_26 rfl 1 rfl ?_
      refine mGetArr (pc := 27) hC 0 (a := (kn L)) (by decide) ⟨rfl, rfl, rfl⟩ hin2 hl11 dX2_digits_27 ?_
      refine gIloadN (pc := 30) hC dX2_digits_30 rfl 2 rfl ?_
      refine mRowAld (pc := 31) hC (rI x) (rfl) (hi) dX2_digits_31 ?_
      refine gIloadN (pc := 32) hC dX2_digits_32 rfl 0 rfl ?_
      refine gIloadN (pc := 33) hC dX2_digits_33 rfl 0 rfl ?_
      refine gBipush (pc := 34) hC (v := (nI 8)) dX2_digits_34 (by decide +kernel) ?_
      refine gIcmp_ge (pc := 36) hC (tgt := 50) dX2_digits_36 (by decide) (fun hc7 => ?_) (fun hc7 => ?_)
      · skip
        have h8 : 8 ≤ i := by
          rcases Nat.lt_or_ge i 8 with q | q
          · exact absurd hc7 (nI_ge q (by decide))
          · exact q
        refine gIconst (pc := 50) hC (v := (nI 0)) dX2_digits_50 (by decide +kernel) ?_
        obtain ⟨ν8, eν8⟩ : ∃ ζ : mSt, ζ = mRo ν1 (rI x) (upd (mn ν1 (rI x)) i (nI 0)) := ⟨_, rfl⟩
        refine mNumSt (pc := 51) hC (K := (rI x)) (by omega) i (rfl) (by omega) eν8 dX2_digits_51 ?_
        refine gIinc (pc := 52) hC (v := (nI (i + 1))) (lv' := [(3, .int (nI (i + 1))), (0, .ref (kx L)), (1, .int (nI (rI x))), (2, .int y)]) dX2_digits_52 (q := 0) rfl (nI_1 _) (by decide) rfl ?_
        refine gGoto (pc := 55) hC (tgt := 20) dX2_digits_55 (by decide) ?_
        refine gLoc (lv' := [(3, .int (nI (i + 1))), (0, .ref (kx L)), (1, .int (nI (rI x))), (2, .int y)]) [0, 1, 2, 3] rfl ?_
        exact ih (ν8) (hI.step eν8 (by rw [dg_0 y h8]; rfl))
      · skip
        have h8 : i < 8 := by
          rcases Nat.lt_or_ge i 8 with q | q
          · exact q
          · exact absurd (nI_le q (by omega)) hc7
        refine gIloadN (pc := 39) hC dX2_digits_39 rfl 3 rfl ?_
        refine gIconst (pc := 40) hC (v := (nI 4)) dX2_digits_40 (by decide +kernel) ?_
        refine gIloadN (pc := 41) hC dX2_digits_41 rfl 0 rfl ?_
        refine gImul (pc := 42) hC dX2_digits_42 rfl ?_
        refine gIshr (pc := 43) hC dX2_digits_43 rfl ?_
        refine gBipush (pc := 44) hC (v := (nI 15)) dX2_digits_44 (by decide +kernel) ?_
        refine gIand (pc := 46) hC (v := (nI (dg y i).val)) dX2_digits_46 (j_digS y h8) ?_
        refine gGoto (pc := 47) hC (tgt := 51) dX2_digits_47 (by decide) ?_
        obtain ⟨ν9, eν9⟩ : ∃ ζ : mSt, ζ = mRo ν1 (rI x) (upd (mn ν1 (rI x)) i (nI (dg y i).val)) := ⟨_, rfl⟩
        refine mNumSt (pc := 51) hC (K := (rI x)) (by omega) i (rfl) (by omega) eν9 dX2_digits_51 ?_
        refine gIinc (pc := 52) hC (v := (nI (i + 1))) (lv' := [(3, .int (nI (i + 1))), (0, .ref (kx L)), (1, .int (nI (rI x))), (2, .int y)]) dX2_digits_52 (q := 0) rfl (nI_1 _) (by decide) rfl ?_
        refine gGoto (pc := 55) hC (tgt := 20) dX2_digits_55 (by decide) ?_
        refine gLoc (lv' := [(3, .int (nI (i + 1))), (0, .ref (kx L)), (1, .int (nI (rI x))), (2, .int y)]) [0, 1, 2, 3] rfl ?_
        exact ih (ν9) (hI.step eν9 rfl)
  · skip
    have nok : ¬ (okR x) := bI_n.mp hc1
    refine gIconst (pc := 8) hC (v := (nI 0)) dX2_digits_8 (by decide +kernel) ?_
    exact gRetI hC hQ hr (Nat.le_of_ble_eq_true rfl) (Nat.le_of_ble_eq_true rfl) dX2_digits_9 (⟨_, rfl, _, rfl, by rw [kk1_1 nok]; exact thr_f nok, Or.inr ⟨kne (kk1_1 nok) ne1, hR⟩⟩)

abbrev rmX2_told : Room := { frames := 2, cells := 0, slots := 0, locals := 43 }
set_option maxRecDepth 100000 in
set_option maxHeartbeats 4000000 in
theorem c_X2_told (l : Launch) (D : va_G) (L : mLay) (μ : mSt) (Δ : dSt) (x : Int32) (hR : mRel μ Δ) : gM l yX2_told wsX2_told rmX2_told D (mTy L) (WM L μ) [.ref (kx L), .int x] 0 0 (fun r w => mPostL L Δ Δ (kk1 (okR x)) (fun b => b = lN (sn (Δ.2.1 (rI x)) (fun i => ((Δ.2.2 (rI x)) i).val * 2 ^ (4 * i)))) r w) := by
  refine gM.of (cc := cX2_told) (maxL := 5) (ret := (some .long)) (own := RX2) (by decide) rfl rfl (Nat.le_of_ble_eq_true rfl) rfl ?_
  intro p e s m args below meth c A Q hC hr hnm hQ
  have hin2 : ∀ w ∈ u_ws RX2 TX2 6, w ∈ wsX2_told := by decide +kernel
  have hl11 : Cond.fieldLink RX2 11 "RootrowsModel" "numbers" "[[I" ∈ wsX2_told := by decide +kernel
  have hl14 : Cond.fieldLink RX2 14 "RootrowsModel" "lengths" "[I" ∈ wsX2_told := by decide +kernel
  by_cases ok : okR x
  · skip
    obtain ⟨hi, ei⟩ := ok.get
    have hle := hR.len hi
    have hF := hR.is hi
    have hL := (hR.okl hi).N.le
    refine gLconst (pc := 0) hC (v := (lN 0)) dX2_told_0 (by decide +kernel) ?_
    refine gLstoreN (pc := 1) hC (lv' := [(2, .long (lN 0)), (0, .ref (kx L)), (1, .int x)]) dX2_told_1 rfl (by decide) rfl ?_
    refine gIconst (pc := 2) hC (v := (nI 0)) dX2_told_2 (by decide +kernel) ?_
    refine gIstore (pc := 3) hC (lv' := [(4, .int (nI 0)), (2, .long (lN 0)), (0, .ref (kx L)), (1, .int x)]) dX2_told_3 (by decide) rfl ?_
    refine gLoc (lv' := [(4, .int (nI 0)), (2, .long (lN 0)), (0, .ref (kx L)), (1, .int x)]) [0, 1, 2, 3] rfl ?_
    refine loopUp (S := (mSt × Int64)) (fun i ζ => gG p l e rmX2_told s m args below meth c D A 5 0 0 Q (WM L ζ.1) 5 [(4, .int (nI i)), (2, .long (ζ.2)), (0, .ref (kx L)), (1, .int x)] []) (fun i ζ => (∃ t, ζ.1 = mTh μ t) ∧ ζ.2 = lN (sn i (fun i => ((Δ.2.2 (rI x)) i).val * 2 ^ (4 * i)))) (Δ.2.1 (rI x)) ?_ ?_ 0 (μ, (lN 0)) (by omega) (⟨⟨mt μ, rfl⟩, rfl⟩)
    · intro ζ hI
      obtain ⟨ν1, c1⟩ := ζ
      try dsimp only at hI ⊢
      refine gAloadN (pc := 5) hC dX2_told_5 rfl 2 rfl ?_
      refine gIloadN (pc := 6) hC dX2_told_6 rfl 3 rfl ?_
      refine gV (pc := 7) (rest := []) (ci := 2) (q0 := 0) hC (c_X2_lacks l D L ν1 x) rfl rfl (cwV 1 hC.2.2.2.2.1 gX2_told_X2_lacks rfl rfl rfl (by decide +kernel) ⟨Nat.le_of_ble_eq_true rfl, Nat.le_of_ble_eq_true rfl⟩) rfl rfl (Nat.le_of_ble_eq_true rfl) dX2_told_7 ⟨Nat.le_of_ble_eq_true rfl, Nat.le_of_ble_eq_true rfl⟩ (fun v w1 hp => ?_)
      obtain ⟨rfl, rfl⟩ := hp
      refine gStk (st' := [.int (bI (¬ okR x))]) (pc' := 10) rfl rfl ?_
      refine gIf_ne (pc := 10) hC (tgt := 48) dX2_told_10 (by decide) (fun hc1 => absurd (bI_0.mpr (fun q => q ok)) hc1) (fun hc1 => ?_)
      refine gIload (pc := 13) hC dX2_told_13 0 rfl ?_
      refine gAloadN (pc := 15) hC dX2_told_15 rfl 2 rfl ?_
      refine mGetArr (pc := 16) hC 1 (a := (kl L)) (by decide) ⟨rfl, rfl, rfl⟩ hin2 hl14 dX2_told_16 ?_
      refine gIloadN (pc := 19) hC dX2_told_19 rfl 3 rfl ?_
      refine mLenLd (pc := 20) hC (v := (nI (Δ.2.1 (rI x)))) (rI x) (ei) (hi) (by obtain ⟨t, rfl⟩ := hI.1; exact hle) dX2_told_20 ?_
      refine gIcmp_ge (pc := 21) hC (tgt := 48) dX2_told_21 (by decide) (fun hc2 => ?_) (fun hc2 => absurd (nI_le (Nat.le_refl _) (by omega)) hc2)
      refine gLloadN (pc := 48) hC dX2_told_48 rfl 1 rfl ?_
      exact gRetL hC hQ hr (Nat.le_of_ble_eq_true rfl) (Nat.le_of_ble_eq_true rfl) dX2_told_49 (⟨_, rfl, _, rfl, by rw [kk1_0 ok]; exact thr_t ok, Or.inl ⟨kk1_0 ok, hI.2, by obtain ⟨t, rfl⟩ := hI.1; exact hR⟩⟩)
    · intro i ζ hi9 hI ih
      obtain ⟨ν1, c1⟩ := ζ
      try dsimp only at hI ih ⊢
      refine gAloadN (pc := 5) hC dX2_told_5 rfl 2 rfl ?_
      refine gIloadN (pc := 6) hC dX2_told_6 rfl 3 rfl ?_
      refine gV (pc := 7) (rest := []) (ci := 2) (q0 := 0) hC (c_X2_lacks l D L ν1 x) rfl rfl (cwV 1 hC.2.2.2.2.1 gX2_told_X2_lacks rfl rfl rfl (by decide +kernel) ⟨Nat.le_of_ble_eq_true rfl, Nat.le_of_ble_eq_true rfl⟩) rfl rfl (Nat.le_of_ble_eq_true rfl) dX2_told_7 ⟨Nat.le_of_ble_eq_true rfl, Nat.le_of_ble_eq_true rfl⟩ (fun v w1 hp => ?_)
      obtain ⟨rfl, rfl⟩ := hp
      refine gStk (st' := [.int (bI (¬ okR x))]) (pc' := 10) rfl rfl ?_
      refine gIf_ne (pc := 10) hC (tgt := 48) dX2_told_10 (by decide) (fun hc3 => absurd (bI_0.mpr (fun q => q ok)) hc3) (fun hc3 => ?_)
      refine gIload (pc := 13) hC dX2_told_13 0 rfl ?_
      refine gAloadN (pc := 15) hC dX2_told_15 rfl 2 rfl ?_
      refine mGetArr (pc := 16) hC 1 (a := (kl L)) (by decide) ⟨rfl, rfl, rfl⟩ hin2 hl14 dX2_told_16 ?_
      refine gIloadN (pc := 19) hC dX2_told_19 rfl 3 rfl ?_
      refine mLenLd (pc := 20) hC (v := (nI (Δ.2.1 (rI x)))) (rI x) (ei) (hi) (by obtain ⟨t, rfl⟩ := hI.1; exact hle) dX2_told_20 ?_
      refine gIcmp_ge (pc := 21) hC (tgt := 48) dX2_told_21 (by decide) (fun hc4 => absurd hc4 (nI_ge hi9 (by omega))) (fun hc4 => ?_)
      refine gLloadN (pc := 24) hC dX2_told_24 rfl 1 rfl ?_
      refine gAloadN (pc := 25) hC dX2_told_25 rfl 2 rfl ?_
      refine mGetArr (pc := 26) hC 0 (a := (kn L)) (by decide) ⟨rfl, rfl, rfl⟩ hin2 hl11 dX2_told_26 ?_
      refine gIloadN (pc := 29) hC dX2_told_29 rfl 3 rfl ?_
      refine mRowAld (pc := 30) hC (rI x) (ei) (hi) dX2_told_30 ?_
      refine gIload (pc := 31) hC dX2_told_31 0 rfl ?_
      refine mNumLd (pc := 33) hC (K := (rI x)) (v := (nI ((Δ.2.2 (rI x)) i).val)) (by omega) i (rfl) (by omega) (by obtain ⟨t, rfl⟩ := hI.1; exact hF i hi9) dX2_told_33 ?_
      refine gI2l (pc := 34) hC dX2_told_34 rfl ?_
      refine gIconst (pc := 35) hC (v := (nI 4)) dX2_told_35 (by decide +kernel) ?_
      refine gIload (pc := 36) hC dX2_told_36 0 rfl ?_
      refine gImul (pc := 38) hC dX2_told_38 rfl ?_
      refine gLshl (pc := 39) hC (v := (lN (((Δ.2.2 (rI x)) i).val * 2 ^ (4 * i)))) dX2_told_39 (j_shN ((Δ.2.2 (rI x)) i) (by omega)) ?_
      refine gLadd (pc := 40) hC (v := (lN (sn (i + 1) (fun i => ((Δ.2.2 (rI x)) i).val * 2 ^ (4 * i))))) dX2_told_40 (by rw [hI.2, lN_add, sn_s]) ?_
      refine gLstoreN (pc := 41) hC (lv' := [(2, .long (lN (sn (i + 1) (fun i => ((Δ.2.2 (rI x)) i).val * 2 ^ (4 * i))))), (4, .int (nI i)), (0, .ref (kx L)), (1, .int x)]) dX2_told_41 rfl (by decide) rfl ?_
      refine gIinc (pc := 42) hC (v := (nI (i + 1))) (lv' := [(4, .int (nI (i + 1))), (2, .long (lN (sn (i + 1) (fun i => ((Δ.2.2 (rI x)) i).val * 2 ^ (4 * i))))), (0, .ref (kx L)), (1, .int x)]) dX2_told_42 (q := 1) rfl (nI_1 _) (by decide) rfl ?_
      refine gGoto (pc := 45) hC (tgt := 5) dX2_told_45 (by decide) ?_
      refine gLoc (lv' := [(4, .int (nI (i + 1))), (2, .long (lN (sn (i + 1) (fun i => ((Δ.2.2 (rI x)) i).val * 2 ^ (4 * i))))), (0, .ref (kx L)), (1, .int x)]) [0, 1, 2, 3] rfl ?_
      exact ih ((mTh ν1 (if okR x then nI 0 else nI 1)), (lN (sn (i + 1) (fun i => ((Δ.2.2 (rI x)) i).val * 2 ^ (4 * i))))) (by obtain ⟨t, rfl⟩ := hI.1; exact ⟨⟨_, rfl⟩, rfl⟩)
  · skip
    refine gLconst (pc := 0) hC (v := (lN 0)) dX2_told_0 (by decide +kernel) ?_
    refine gLstoreN (pc := 1) hC (lv' := [(2, .long (lN 0)), (0, .ref (kx L)), (1, .int x)]) dX2_told_1 rfl (by decide) rfl ?_
    refine gIconst (pc := 2) hC (v := (nI 0)) dX2_told_2 (by decide +kernel) ?_
    refine gIstore (pc := 3) hC (lv' := [(4, .int (nI 0)), (2, .long (lN 0)), (0, .ref (kx L)), (1, .int x)]) dX2_told_3 (by decide) rfl ?_
    refine gAloadN (pc := 5) hC dX2_told_5 rfl 2 rfl ?_
    refine gIloadN (pc := 6) hC dX2_told_6 rfl 3 rfl ?_
    refine gV (pc := 7) (rest := []) (ci := 2) (q0 := 0) hC (c_X2_lacks l D L μ x) rfl rfl (cwV 1 hC.2.2.2.2.1 gX2_told_X2_lacks rfl rfl rfl (by decide +kernel) ⟨Nat.le_of_ble_eq_true rfl, Nat.le_of_ble_eq_true rfl⟩) rfl rfl (Nat.le_of_ble_eq_true rfl) dX2_told_7 ⟨Nat.le_of_ble_eq_true rfl, Nat.le_of_ble_eq_true rfl⟩ (fun v w1 hp => ?_)
    obtain ⟨rfl, rfl⟩ := hp
    refine gStk (st' := [.int (bI (¬ okR x))]) (pc' := 10) rfl rfl ?_
    refine gIf_ne (pc := 10) hC (tgt := 48) dX2_told_10 (by decide) (fun hc5 => ?_) (fun hc5 => absurd hc5 (bI_n.mpr ok))
    refine gLloadN (pc := 48) hC dX2_told_48 rfl 1 rfl ?_
    exact gRetL hC hQ hr (Nat.le_of_ble_eq_true rfl) (Nat.le_of_ble_eq_true rfl) dX2_told_49 (⟨_, rfl, _, rfl, by rw [kk1_1 ok]; exact thr_f ok, Or.inr ⟨kne (kk1_1 ok) ne1, hR⟩⟩)
