abbrev rmX2_cannotBePlain : Room := { frames := 2, cells := 0, slots := 0, locals := 44 }
set_option maxRecDepth 100000 in
set_option maxHeartbeats 4000000 in
theorem c_X2_cannotBePlain (l : Launch) (D : va_G) (L : mLay) (μ : mSt) (Δ : dSt) (x : Int32) (y : Int32) (hR : mRel μ Δ) : gM l yX2_cannotBePlain wsX2_cannotBePlain rmX2_cannotBePlain D (mTy L) (WM L μ) [.ref (kx L), .int x, .int y] 0 0 (fun r w => ∃ μ', w = WM L μ' ∧ mt μ' = nI (kk2 (okR x ∧ okR y) ((Δ.2.1 (rI x)) = (Δ.2.1 (rI y)) ∧ (Δ.2.1 (rI x)) < 16)) ∧ mRel μ' Δ ∧ r = some (.int (bI (¬ (kk2 (okR x ∧ okR y) ((Δ.2.1 (rI x)) = (Δ.2.1 (rI y)) ∧ (Δ.2.1 (rI x)) < 16)) = 0)))) := by
  refine gM.of (cc := cX2_cannotBePlain) (maxL := 3) (ret := (some .boolean)) (own := RX2) (by decide) rfl rfl (Nat.le_of_ble_eq_true rfl) rfl ?_
  intro p e s m args below meth c A Q hC hr hnm hQ
  have hin2 : ∀ w ∈ u_ws RX2 TX2 6, w ∈ wsX2_cannotBePlain := by decide +kernel
  have hl14 : Cond.fieldLink RX2 14 "RootrowsModel" "lengths" "[I" ∈ wsX2_cannotBePlain := by decide +kernel
  refine gAloadN (pc := 0) hC dX2_cannotBePlain_0 rfl 0 rfl ?_
  refine gIloadN (pc := 1) hC dX2_cannotBePlain_1 rfl 1 rfl ?_
  refine gIloadN (pc := 2) hC dX2_cannotBePlain_2 rfl 2 rfl ?_
  refine gV (pc := 3) (rest := []) (ci := 2) (q0 := 0) hC (c_X2_lacksTwo l D L μ x y) rfl rfl (cwV 2 hC.2.2.2.2.1 gX2_cannotBePlain_X2_lacksTwo rfl rfl rfl (by decide +kernel) ⟨Nat.le_of_ble_eq_true rfl, Nat.le_of_ble_eq_true rfl⟩) rfl rfl (Nat.le_of_ble_eq_true rfl) dX2_cannotBePlain_3 ⟨Nat.le_of_ble_eq_true rfl, Nat.le_of_ble_eq_true rfl⟩ (fun v w1 hp => ?_)
  obtain ⟨rfl, rfl⟩ := hp
  refine gStk (st' := [.int (bI (¬ (okR x ∧ okR y)))]) (pc' := 6) rfl rfl ?_
  refine gIf_ne (pc := 6) hC (tgt := 48) dX2_cannotBePlain_6 (by decide) (fun hc1 => ?_) (fun hc1 => ?_)
  · skip
    have nok : ¬ (okR x ∧ okR y) := bI_n.mp hc1
    refine gIconst (pc := 48) hC (v := (nI 1)) dX2_cannotBePlain_48 (by decide +kernel) ?_
    refine gGoto (pc := 49) hC (tgt := 53) dX2_cannotBePlain_49 (by decide) ?_
    exact gRetZ hC hQ hr (rfl) (Nat.le_of_ble_eq_true rfl) (Nat.le_of_ble_eq_true rfl) dX2_cannotBePlain_53 (⟨_, rfl, by rw [kk2_1 nok]; exact thr_f nok, hR, by rw [bI_t (kne (kk2_1 nok) ne1)]⟩)
  · skip
    have ok : (okR x ∧ okR y) := nn (bI_0.mp hc1)
    obtain ⟨hi, ei⟩ := ok.1.get
    obtain ⟨hi2, ei2⟩ := ok.2.get
    have hle := hR.len hi
    have hle2 := hR.len hi2
    refine gAloadN (pc := 9) hC dX2_cannotBePlain_9 rfl 0 rfl ?_
    refine gAloadN (pc := 10) hC dX2_cannotBePlain_10 rfl 0 rfl ?_
    refine mGetArr (pc := 11) hC 1 (a := (kl L)) (by decide) ⟨rfl, rfl, rfl⟩ hin2 hl14 dX2_cannotBePlain_11 ?_
    refine gIloadN (pc := 14) hC dX2_cannotBePlain_14 rfl 1 rfl ?_
    refine mLenLd (pc := 15) hC (v := (nI (Δ.2.1 (rI x)))) (rI x) (ei) (hi) (hle) dX2_cannotBePlain_15 ?_
    refine gAloadN (pc := 16) hC dX2_cannotBePlain_16 rfl 0 rfl ?_
    refine mGetArr (pc := 17) hC 1 (a := (kl L)) (by decide) ⟨rfl, rfl, rfl⟩ hin2 hl14 dX2_cannotBePlain_17 ?_
    refine gIloadN (pc := 20) hC dX2_cannotBePlain_20 rfl 2 rfl ?_
    refine mLenLd (pc := 21) hC (v := (nI (Δ.2.1 (rI y)))) (rI y) (ei2) (hi2) (hle2) dX2_cannotBePlain_21 ?_
    refine gIcmp_ne (pc := 22) hC (tgt := 40) dX2_cannotBePlain_22 (by decide) (fun hc2 => ?_) (fun hc2 => ?_)
    · skip
      have noka : ¬ ((Δ.2.1 (rI x)) = (Δ.2.1 (rI y))) := fun q => hc2 ((len_eq hR hi hi2).mpr q)
      have nokp : ¬ ((Δ.2.1 (rI x)) = (Δ.2.1 (rI y)) ∧ (Δ.2.1 (rI x)) < 16) := fun q => noka q.1
      refine gIconst (pc := 40) hC (v := (nI 0)) dX2_cannotBePlain_40 (by decide +kernel) ?_
      refine gStk (st' := [.int (bI ((Δ.2.1 (rI x)) = (Δ.2.1 (rI y)) ∧ (Δ.2.1 (rI x)) < 16)), .ref (kx L)]) (pc' := 41) (by rw [bI_f nokp]) rfl ?_
      refine gIconst (pc := 41) hC (v := (nI 2)) dX2_cannotBePlain_41 (by decide +kernel) ?_
      refine gV (pc := 42) (rest := []) (ci := 2) (q0 := 0) hC (c_X2_no l D L (mTh μ (if (okR x ∧ okR y) then nI 0 else nI 1)) ((Δ.2.1 (rI x)) = (Δ.2.1 (rI y)) ∧ (Δ.2.1 (rI x)) < 16) (nI 2)) rfl rfl (cwV 2 hC.2.2.2.2.1 gX2_cannotBePlain_X2_no rfl rfl rfl (by decide +kernel) ⟨Nat.le_of_ble_eq_true rfl, Nat.le_of_ble_eq_true rfl⟩) rfl rfl (Nat.le_of_ble_eq_true rfl) dX2_cannotBePlain_42 ⟨Nat.le_of_ble_eq_true rfl, Nat.le_of_ble_eq_true rfl⟩ (fun v w1 hp => ?_)
      obtain ⟨rfl, rfl⟩ := hp
      refine gStk (st' := [.int (bI (¬ ((Δ.2.1 (rI x)) = (Δ.2.1 (rI y)) ∧ (Δ.2.1 (rI x)) < 16)))]) (pc' := 45) rfl rfl ?_
      refine gIf_eq (pc := 45) hC (tgt := 52) dX2_cannotBePlain_45 (by decide) (fun hc3 => absurd hc3 (bI_n.mpr nokp)) (fun hc3 => ?_)
      refine gIconst (pc := 48) hC (v := (nI 1)) dX2_cannotBePlain_48 (by decide +kernel) ?_
      refine gGoto (pc := 49) hC (tgt := 53) dX2_cannotBePlain_49 (by decide) ?_
      exact gRetZ hC hQ hr (rfl) (Nat.le_of_ble_eq_true rfl) (Nat.le_of_ble_eq_true rfl) dX2_cannotBePlain_53 (⟨_, rfl, by rw [kk2_2 ok nokp]; exact thr_f nokp, hR, by rw [bI_t (kne (kk2_2 ok nokp) ne2)]⟩)
    · skip
      have oka : ((Δ.2.1 (rI x)) = (Δ.2.1 (rI y))) := (len_eq hR hi hi2).mp hc2
      have hL := (hR.okl hi).N.le
      refine gAloadN (pc := 25) hC dX2_cannotBePlain_25 rfl 0 rfl ?_
      refine mGetArr (pc := 26) hC 1 (a := (kl L)) (by decide) ⟨rfl, rfl, rfl⟩ hin2 hl14 dX2_cannotBePlain_26 ?_
      refine gIloadN (pc := 29) hC dX2_cannotBePlain_29 rfl 1 rfl ?_
      refine mLenLd (pc := 30) hC (v := (nI (Δ.2.1 (rI x)))) (rI x) (ei) (hi) (hle) dX2_cannotBePlain_30 ?_
      refine gBipush (pc := 31) hC (v := (nI 16)) dX2_cannotBePlain_31 (by decide +kernel) ?_
      refine gIcmp_ge (pc := 33) hC (tgt := 40) dX2_cannotBePlain_33 (by decide) (fun hc4 => ?_) (fun hc4 => ?_)
      · skip
        have nokp : ¬ ((Δ.2.1 (rI x)) = (Δ.2.1 (rI y)) ∧ (Δ.2.1 (rI x)) < 16) := fun q => absurd hc4 (nI_ge q.2 (by decide))
        refine gIconst (pc := 40) hC (v := (nI 0)) dX2_cannotBePlain_40 (by decide +kernel) ?_
        refine gStk (st' := [.int (bI ((Δ.2.1 (rI x)) = (Δ.2.1 (rI y)) ∧ (Δ.2.1 (rI x)) < 16)), .ref (kx L)]) (pc' := 41) (by rw [bI_f nokp]) rfl ?_
        refine gIconst (pc := 41) hC (v := (nI 2)) dX2_cannotBePlain_41 (by decide +kernel) ?_
        refine gV (pc := 42) (rest := []) (ci := 2) (q0 := 0) hC (c_X2_no l D L (mTh μ (if (okR x ∧ okR y) then nI 0 else nI 1)) ((Δ.2.1 (rI x)) = (Δ.2.1 (rI y)) ∧ (Δ.2.1 (rI x)) < 16) (nI 2)) rfl rfl (cwV 2 hC.2.2.2.2.1 gX2_cannotBePlain_X2_no rfl rfl rfl (by decide +kernel) ⟨Nat.le_of_ble_eq_true rfl, Nat.le_of_ble_eq_true rfl⟩) rfl rfl (Nat.le_of_ble_eq_true rfl) dX2_cannotBePlain_42 ⟨Nat.le_of_ble_eq_true rfl, Nat.le_of_ble_eq_true rfl⟩ (fun v w1 hp => ?_)
        obtain ⟨rfl, rfl⟩ := hp
        refine gStk (st' := [.int (bI (¬ ((Δ.2.1 (rI x)) = (Δ.2.1 (rI y)) ∧ (Δ.2.1 (rI x)) < 16)))]) (pc' := 45) rfl rfl ?_
        refine gIf_eq (pc := 45) hC (tgt := 52) dX2_cannotBePlain_45 (by decide) (fun hc5 => absurd hc5 (bI_n.mpr nokp)) (fun hc5 => ?_)
        refine gIconst (pc := 48) hC (v := (nI 1)) dX2_cannotBePlain_48 (by decide +kernel) ?_
        refine gGoto (pc := 49) hC (tgt := 53) dX2_cannotBePlain_49 (by decide) ?_
        exact gRetZ hC hQ hr (rfl) (Nat.le_of_ble_eq_true rfl) (Nat.le_of_ble_eq_true rfl) dX2_cannotBePlain_53 (⟨_, rfl, by rw [kk2_2 ok nokp]; exact thr_f nokp, hR, by rw [bI_t (kne (kk2_2 ok nokp) ne2)]⟩)
      · skip
        have h16 : (Δ.2.1 (rI x)) < 16 := by
          rcases Nat.lt_or_ge (Δ.2.1 (rI x)) 16 with q | q
          · exact q
          · exact absurd (nI_le q (by omega)) hc4
        have okp : ((Δ.2.1 (rI x)) = (Δ.2.1 (rI y)) ∧ (Δ.2.1 (rI x)) < 16) := ⟨oka, h16⟩
        refine gIconst (pc := 36) hC (v := (nI 1)) dX2_cannotBePlain_36 (by decide +kernel) ?_
        refine gGoto (pc := 37) hC (tgt := 41) dX2_cannotBePlain_37 (by decide) ?_
        refine gStk (st' := [.int (bI ((Δ.2.1 (rI x)) = (Δ.2.1 (rI y)) ∧ (Δ.2.1 (rI x)) < 16)), .ref (kx L)]) (pc' := 41) (by rw [bI_t okp]) rfl ?_
        refine gIconst (pc := 41) hC (v := (nI 2)) dX2_cannotBePlain_41 (by decide +kernel) ?_
        refine gV (pc := 42) (rest := []) (ci := 2) (q0 := 0) hC (c_X2_no l D L (mTh μ (if (okR x ∧ okR y) then nI 0 else nI 1)) ((Δ.2.1 (rI x)) = (Δ.2.1 (rI y)) ∧ (Δ.2.1 (rI x)) < 16) (nI 2)) rfl rfl (cwV 2 hC.2.2.2.2.1 gX2_cannotBePlain_X2_no rfl rfl rfl (by decide +kernel) ⟨Nat.le_of_ble_eq_true rfl, Nat.le_of_ble_eq_true rfl⟩) rfl rfl (Nat.le_of_ble_eq_true rfl) dX2_cannotBePlain_42 ⟨Nat.le_of_ble_eq_true rfl, Nat.le_of_ble_eq_true rfl⟩ (fun v w1 hp => ?_)
        obtain ⟨rfl, rfl⟩ := hp
        refine gStk (st' := [.int (bI (¬ ((Δ.2.1 (rI x)) = (Δ.2.1 (rI y)) ∧ (Δ.2.1 (rI x)) < 16)))]) (pc' := 45) rfl rfl ?_
        refine gIf_eq (pc := 45) hC (tgt := 52) dX2_cannotBePlain_45 (by decide) (fun hc6 => ?_) (fun hc6 => absurd (bI_0.mpr (fun q => q okp)) hc6)
        obtain ⟨ν7, eν7, hRν7, htν7⟩ : ∃ ζ : mSt, ζ = (mTh μ (if ((Δ.2.1 (rI x)) = (Δ.2.1 (rI y)) ∧ (Δ.2.1 (rI x)) < 16) then nI 0 else nI 2)) ∧ mRel ζ Δ ∧ mt ζ = nI (kk2 (okR x ∧ okR y) ((Δ.2.1 (rI x)) = (Δ.2.1 (rI y)) ∧ (Δ.2.1 (rI x)) < 16)) := ⟨_, rfl, hR, (by rw [kk2_0 ok okp]; exact thr_t okp)⟩
        refine gWs (ws' := WM L ν7) (by first | (rw [eν7]; done) | (rw [eν7]; rfl)) ?_
        refine gIconst (pc := 52) hC (v := (nI 0)) dX2_cannotBePlain_52 (by decide +kernel) ?_
        exact gRetZ hC hQ hr (rfl) (Nat.le_of_ble_eq_true rfl) (Nat.le_of_ble_eq_true rfl) dX2_cannotBePlain_53 (⟨_, rfl, htν7, hRν7, by rw [bI_f (fun q => q (kk2_0 ok okp))]⟩)

abbrev rmX2_plainTimes : Room := { frames := 3, cells := 0, slots := 0, locals := 66 }
set_option maxRecDepth 100000 in
set_option maxHeartbeats 4000000 in
theorem c_X2_plainTimes (l : Launch) (D : va_G) (L : mLay) (μ : mSt) (Δ : dSt) (x : Int32) (y : Int32) (hR : mRel μ Δ) : gM l yX2_plainTimes wsX2_plainTimes rmX2_plainTimes D (mTy L) (WM L μ) [.ref (kx L), .int x, .int y] 0 0 (fun r w => mPost L Δ (dRow Δ (rI x) (2 * (Δ.2.1 (rI x))) (pp (Δ.2.1 (rI x)) (Δ.2.2 (rI x)) (Δ.2.2 (rI y)))) (kk2 (okR x ∧ okR y) ((Δ.2.1 (rI x)) = (Δ.2.1 (rI y)) ∧ (Δ.2.1 (rI x)) < 16)) (fun b => b = nI (cz (pp (Δ.2.1 (rI x)) (Δ.2.2 (rI x)) (Δ.2.2 (rI y))) (2 * (Δ.2.1 (rI x))))) r w) := by
  refine gM.of (cc := cX2_plainTimes) (maxL := 3) (ret := (some .int)) (own := RX2) (by decide) rfl rfl (Nat.le_of_ble_eq_true rfl) rfl ?_
  intro p e s m args below meth c A Q hC hr hnm hQ
  have hin2 : ∀ w ∈ u_ws RX2 TX2 6, w ∈ wsX2_plainTimes := by decide +kernel
  have hl14 : Cond.fieldLink RX2 14 "RootrowsModel" "lengths" "[I" ∈ wsX2_plainTimes := by decide +kernel
  refine gAloadN (pc := 0) hC dX2_plainTimes_0 rfl 0 rfl ?_
  refine gIloadN (pc := 1) hC dX2_plainTimes_1 rfl 1 rfl ?_
  refine gIloadN (pc := 2) hC dX2_plainTimes_2 rfl 2 rfl ?_
  refine gV (pc := 3) (rest := []) (ci := 2) (q0 := 0) hC (c_X2_cannotBePlain l D L μ Δ x y hR) rfl rfl (cwV 2 hC.2.2.2.2.1 gX2_plainTimes_X2_cannotBePlain rfl rfl rfl (by decide +kernel) ⟨Nat.le_of_ble_eq_true rfl, Nat.le_of_ble_eq_true rfl⟩) rfl rfl (Nat.le_of_ble_eq_true rfl) dX2_plainTimes_3 ⟨Nat.le_of_ble_eq_true rfl, Nat.le_of_ble_eq_true rfl⟩ (fun v w1 hp => ?_)
  obtain ⟨μ1, rfl, ht1, hR1, rfl⟩ := hp
  refine gStk (st' := [.int (bI (¬ (kk2 (okR x ∧ okR y) ((Δ.2.1 (rI x)) = (Δ.2.1 (rI y)) ∧ (Δ.2.1 (rI x)) < 16)) = 0))]) (pc' := 6) rfl rfl ?_
  refine gIf_eq (pc := 6) hC (tgt := 11) dX2_plainTimes_6 (by decide) (fun hc1 => ?_) (fun hc1 => ?_)
  · skip
    have hk0 := nn (bI_0.mp hc1)
    obtain ⟨ok, oka⟩ := kk2_z hk0
    obtain ⟨hi, ei⟩ := ok.1.get
    have hl_ := hR1.okl hi
    have hle := hR1.len hi
    have hF := hR1.is hi
    have hz := hR1.zer hi
    have hN := hl_.N
    have hL := hN.le
    have hp := hN.pos
    have hx2 : Value.int x = Value.int (nI (rI x)) := congrArg Value.int ei
    refine gLocE (lv' := [(0, .ref (kx L)), (1, .int (nI (rI x))), (2, .int y)]) (by first | (rw [← hx2]; done) | (rw [← hx2]; rfl)) ?_
    obtain ⟨hi2, ei2⟩ := ok.2.get
    have hl2_ := hR1.okl hi2
    have hle2 := hR1.len hi2
    have hF2 := hR1.is hi2
    have hz2 := hR1.zer hi2
    have hN2 := hl2_.N
    have hL2 := hN2.le
    have hp2 := hN2.pos
    have hx3 : Value.int y = Value.int (nI (rI y)) := congrArg Value.int ei2
    refine gLocE (lv' := [(0, .ref (kx L)), (1, .int (nI (rI x))), (2, .int (nI (rI y)))]) (by first | (rw [← hx3]; done) | (rw [← hx3]; rfl)) ?_
    have hG : mIs μ1 (rI y) (Δ.2.1 (rI x)) (Δ.2.2 (rI y)) := by rw [oka.1]; exact hF2
    have h8 : (Δ.2.1 (rI x)) ≤ 8 := by have h16 := oka.2; rcases hl_ with h | h | h | h <;> omega
    have hl2 : okL (2 * (Δ.2.1 (rI x))) := by have h16 := oka.2; unfold okL; rcases hl_ with h | h | h | h <;> omega
    refine gAloadN (pc := 11) hC dX2_plainTimes_11 rfl 0 rfl ?_
    refine gIloadN (pc := 12) hC dX2_plainTimes_12 rfl 1 rfl ?_
    refine gIloadN (pc := 13) hC dX2_plainTimes_13 rfl 2 rfl ?_
    refine gIconst (pc := 14) hC (v := (nI 2)) dX2_plainTimes_14 (by decide +kernel) ?_
    refine gAloadN (pc := 15) hC dX2_plainTimes_15 rfl 0 rfl ?_
    refine mGetArr (pc := 16) hC 1 (a := (kl L)) (by decide) ⟨rfl, rfl, rfl⟩ hin2 hl14 dX2_plainTimes_16 ?_
    refine gIloadN (pc := 19) hC dX2_plainTimes_19 rfl 1 rfl ?_
    refine mLenLd (pc := 20) hC (v := (nI (Δ.2.1 (rI x)))) (rI x) (rfl) (hi) (hle) dX2_plainTimes_20 ?_
    refine gImul (pc := 21) hC (v := (nI (2 * (Δ.2.1 (rI x))))) dX2_plainTimes_21 (pk_mul _ _) ?_
    refine gV (pc := 22) (rest := []) (ci := 2) (q0 := 0) hC (c_X2_multiplied l D L μ1 (rI x) (rI y) (Δ.2.1 (rI x)) (2 * (Δ.2.1 (rI x))) (Δ.2.2 (rI x)) (Δ.2.2 (rI y)) hi hi2 hle hF hG hL (by omega) (by omega)) rfl rfl (cwV 3 hC.2.2.2.2.1 gX2_plainTimes_X2_multiplied rfl rfl rfl (by decide +kernel) ⟨Nat.le_of_ble_eq_true rfl, Nat.le_of_ble_eq_true rfl⟩) rfl rfl (Nat.le_of_ble_eq_true rfl) dX2_plainTimes_22 ⟨Nat.le_of_ble_eq_true rfl, Nat.le_of_ble_eq_true rfl⟩ (fun v w1 hp => ?_)
    obtain ⟨rfl, ν1, rfl, h1'⟩ := hp
    refine gStk (st' := []) (pc' := 25) rfl rfl ?_
    have h1 := h1'.cong (G := (pp (Δ.2.1 (rI x)) (Δ.2.2 (rI x)) (Δ.2.2 (rI y)))) (fun j _ => mq_pp _ _ _)
    have hle9 := h1.len hle
    refine gAloadN (pc := 25) hC dX2_plainTimes_25 rfl 0 rfl ?_
    refine mGetArr (pc := 26) hC 1 (a := (kl L)) (by decide) ⟨rfl, rfl, rfl⟩ hin2 hl14 dX2_plainTimes_26 ?_
    refine gIloadN (pc := 29) hC dX2_plainTimes_29 rfl 1 rfl ?_
    refine gDup2 (pc := 30) hC dX2_plainTimes_30 rfl rfl ?_
    refine mLenLd (pc := 31) hC (v := (nI (Δ.2.1 (rI x)))) (rI x) (rfl) (hi) (hle9) dX2_plainTimes_31 ?_
    refine gIconst (pc := 32) hC (v := (nI 2)) dX2_plainTimes_32 (by decide +kernel) ?_
    refine gImul (pc := 33) hC (v := (nI (2 * (Δ.2.1 (rI x))))) dX2_plainTimes_33 (by rw [pk_mul, Nat.mul_comm]) ?_
    obtain ⟨ν4, eν4⟩ : ∃ ζ : mSt, ζ = mLe ν1 (upd (ml ν1) (rI x) (nI (2 * (Δ.2.1 (rI x))))) := ⟨_, rfl⟩
    refine mLenSt (pc := 34) hC (rI x) (rfl) (hi) eν4 dX2_plainTimes_34 ?_
    refine gAloadN (pc := 35) hC dX2_plainTimes_35 rfl 0 rfl ?_
    refine gIloadN (pc := 36) hC dX2_plainTimes_36 rfl 1 rfl ?_
    have hG9 : mIs ν4 (rI x) (2 * (Δ.2.1 (rI x))) (fun j => if j < (Δ.2.1 (rI x)) then (Δ.2.2 (rI x)) j else 0) := by
      intro j hj
      rw [eν4]
      show mn ν1 (rI x) j = nI (if j < (Δ.2.1 (rI x)) then (Δ.2.2 (rI x)) j else 0).val
      by_cases q : j < (Δ.2.1 (rI x))
      · rw [if_pos q]; exact h1.is hF j q
      · rw [if_neg q]; exact (h1.rel hR1).zer hi j (by omega) (by omega)
    refine gV (pc := 37) (rest := []) (ci := 2) (q0 := 0) hC (c_X2_putZeros l D L ν4 (rI x) (2 * (Δ.2.1 (rI x))) (fun j => if j < (Δ.2.1 (rI x)) then (Δ.2.2 (rI x)) j else 0) (pp (Δ.2.1 (rI x)) (Δ.2.2 (rI x)) (Δ.2.2 (rI y))) hi (by rw [eν4]; exact upd_at _ _ _) hG9 (by rw [eν4]; exact h1.got) (by omega)) rfl rfl (cwV 1 hC.2.2.2.2.1 gX2_plainTimes_X2_putZeros rfl rfl rfl (by decide +kernel) ⟨Nat.le_of_ble_eq_true rfl, Nat.le_of_ble_eq_true rfl⟩) rfl rfl (Nat.le_of_ble_eq_true rfl) dX2_plainTimes_37 ⟨Nat.le_of_ble_eq_true rfl, Nat.le_of_ble_eq_true rfl⟩ (fun v w1 hp => ?_)
    obtain ⟨rfl, ν2, rfl, h2⟩ := hp
    refine gStk (st' := [.int (nI (cz (pp (Δ.2.1 (rI x)) (Δ.2.2 (rI x)) (Δ.2.2 (rI y))) (2 * (Δ.2.1 (rI x)))))]) (pc' := 40) rfl rfl ?_
    exact gRetI hC hQ hr (Nat.le_of_ble_eq_true rfl) (Nat.le_of_ble_eq_true rfl) dX2_plainTimes_40 (⟨_, rfl, _, rfl, (h2.thr.trans (by rw [eν4]; exact h1.thr.trans ht1)), Or.inl ⟨hk0, rfl, mPut.rel2 (h1.rel hR1) hi hl2 (by omega) (eν4 ▸ h2)⟩⟩)
  · skip
    refine gIconst (pc := 9) hC (v := (nI 0)) dX2_plainTimes_9 (by decide +kernel) ?_
    exact gRetI hC hQ hr (Nat.le_of_ble_eq_true rfl) (Nat.le_of_ble_eq_true rfl) dX2_plainTimes_10 (⟨_, rfl, _, rfl, ht1, Or.inr ⟨bI_n.mp hc1, hR1⟩⟩)

abbrev rmX2_isPlain : Room := { frames := 3, cells := 0, slots := 0, locals := 66 }
set_option maxRecDepth 100000 in
set_option maxHeartbeats 4000000 in
theorem c_X2_isPlain (l : Launch) (D : va_G) (L : mLay) (μ : mSt) (Δ : dSt) (x : Int32) (y : Int32) (hR : mRel μ Δ) : gM l yX2_isPlain wsX2_isPlain rmX2_isPlain D (mTy L) (WM L μ) [.ref (kx L), .int x, .int y] 0 0 (fun r w => mPost L Δ Δ (kk2 (okR x ∧ okR y) ((Δ.2.1 (rI x)) = (Δ.2.1 (rI y)) ∧ (Δ.2.1 (rI x)) < 16)) (fun b => b = nI 1) r w) := by
  refine gM.of (cc := cX2_isPlain) (maxL := 3) (ret := (some .boolean)) (own := RX2) (by decide) rfl rfl (Nat.le_of_ble_eq_true rfl) rfl ?_
  intro p e s m args below meth c A Q hC hr hnm hQ
  refine gAloadN (pc := 0) hC dX2_isPlain_0 rfl 0 rfl ?_
  refine gIloadN (pc := 1) hC dX2_isPlain_1 rfl 1 rfl ?_
  refine gIloadN (pc := 2) hC dX2_isPlain_2 rfl 2 rfl ?_
  refine gV (pc := 3) (rest := []) (ci := 2) (q0 := 0) hC (c_X2_cannotBePlain l D L μ Δ x y hR) rfl rfl (cwV 2 hC.2.2.2.2.1 gX2_isPlain_X2_cannotBePlain rfl rfl rfl (by decide +kernel) ⟨Nat.le_of_ble_eq_true rfl, Nat.le_of_ble_eq_true rfl⟩) rfl rfl (Nat.le_of_ble_eq_true rfl) dX2_isPlain_3 ⟨Nat.le_of_ble_eq_true rfl, Nat.le_of_ble_eq_true rfl⟩ (fun v w1 hp => ?_)
  obtain ⟨μ1, rfl, ht1, hR1, rfl⟩ := hp
  refine gStk (st' := [.int (bI (¬ (kk2 (okR x ∧ okR y) ((Δ.2.1 (rI x)) = (Δ.2.1 (rI y)) ∧ (Δ.2.1 (rI x)) < 16)) = 0))]) (pc' := 6) rfl rfl ?_
  refine gIf_ne (pc := 6) hC (tgt := 13) dX2_isPlain_6 (by decide) (fun hc1 => ?_) (fun hc1 => ?_)
  · skip
    refine gIconst (pc := 13) hC (v := (nI 0)) dX2_isPlain_13 (by decide +kernel) ?_
    exact gRetZ hC hQ hr (rfl) (Nat.le_of_ble_eq_true rfl) (Nat.le_of_ble_eq_true rfl) dX2_isPlain_14 (⟨_, rfl, _, rfl, ht1, Or.inr ⟨bI_n.mp hc1, hR1⟩⟩)
  · skip
    have hk0 := nn (bI_0.mp hc1)
    obtain ⟨ok, oka⟩ := kk2_z hk0
    refine gIconst (pc := 9) hC (v := (nI 1)) dX2_isPlain_9 (by decide +kernel) ?_
    refine gGoto (pc := 10) hC (tgt := 14) dX2_isPlain_10 (by decide) ?_
    exact gRetZ hC hQ hr (rfl) (Nat.le_of_ble_eq_true rfl) (Nat.le_of_ble_eq_true rfl) dX2_isPlain_14 (⟨_, rfl, _, rfl, ht1, Or.inl ⟨hk0, rfl, hR1⟩⟩)

abbrev rmX2_cannotRepeat : Room := { frames := 2, cells := 0, slots := 0, locals := 43 }
set_option maxRecDepth 100000 in
set_option maxHeartbeats 4000000 in
theorem c_X2_cannotRepeat (l : Launch) (D : va_G) (L : mLay) (μ : mSt) (Δ : dSt) (x : Int32) (y : Int32) (hR : mRel μ Δ) : gM l yX2_cannotRepeat wsX2_cannotRepeat rmX2_cannotRepeat D (mTy L) (WM L μ) [.ref (kx L), .int x, .int y] 0 0 (fun r w => ∃ μ', w = WM L μ' ∧ mt μ' = nI (kk2 (okR x) (okD y ∧ ¬ nI (Δ.2.1 (rI x)) < y)) ∧ mRel μ' Δ ∧ r = some (.int (bI (¬ (kk2 (okR x) (okD y ∧ ¬ nI (Δ.2.1 (rI x)) < y)) = 0)))) := by
  refine gM.of (cc := cX2_cannotRepeat) (maxL := 3) (ret := (some .boolean)) (own := RX2) (by decide) rfl rfl (Nat.le_of_ble_eq_true rfl) rfl ?_
  intro p e s m args below meth c A Q hC hr hnm hQ
  have hin2 : ∀ w ∈ u_ws RX2 TX2 6, w ∈ wsX2_cannotRepeat := by decide +kernel
  have hl14 : Cond.fieldLink RX2 14 "RootrowsModel" "lengths" "[I" ∈ wsX2_cannotRepeat := by decide +kernel
  refine gAloadN (pc := 0) hC dX2_cannotRepeat_0 rfl 0 rfl ?_
  refine gIloadN (pc := 1) hC dX2_cannotRepeat_1 rfl 1 rfl ?_
  refine gV (pc := 2) (rest := []) (ci := 2) (q0 := 0) hC (c_X2_lacks l D L μ x) rfl rfl (cwV 1 hC.2.2.2.2.1 gX2_cannotRepeat_X2_lacks rfl rfl rfl (by decide +kernel) ⟨Nat.le_of_ble_eq_true rfl, Nat.le_of_ble_eq_true rfl⟩) rfl rfl (Nat.le_of_ble_eq_true rfl) dX2_cannotRepeat_2 ⟨Nat.le_of_ble_eq_true rfl, Nat.le_of_ble_eq_true rfl⟩ (fun v w1 hp => ?_)
  obtain ⟨rfl, rfl⟩ := hp
  refine gStk (st' := [.int (bI (¬ (okR x)))]) (pc' := 5) rfl rfl ?_
  refine gIf_ne (pc := 5) hC (tgt := 43) dX2_cannotRepeat_5 (by decide) (fun hc1 => ?_) (fun hc1 => ?_)
  · skip
    have nok : ¬ (okR x) := bI_n.mp hc1
    refine gIconst (pc := 43) hC (v := (nI 1)) dX2_cannotRepeat_43 (by decide +kernel) ?_
    refine gGoto (pc := 44) hC (tgt := 48) dX2_cannotRepeat_44 (by decide) ?_
    exact gRetZ hC hQ hr (rfl) (Nat.le_of_ble_eq_true rfl) (Nat.le_of_ble_eq_true rfl) dX2_cannotRepeat_48 (⟨_, rfl, by rw [kk2_1 nok]; exact thr_f nok, hR, by rw [bI_t (kne (kk2_1 nok) ne1)]⟩)
  · skip
    have ok : okR x := nn (bI_0.mp hc1)
    obtain ⟨hi, ei⟩ := ok.get
    have hle := hR.len hi
    refine gAloadN (pc := 8) hC dX2_cannotRepeat_8 rfl 0 rfl ?_
    refine gIloadN (pc := 9) hC dX2_cannotRepeat_9 rfl 2 rfl ?_
    refine gIconst (pc := 10) hC (v := (nI 1)) dX2_cannotRepeat_10 (by decide +kernel) ?_
    refine gIcmp_eq (pc := 11) hC (tgt := 21) dX2_cannotRepeat_11 (by decide) (fun hc2 => ?_) (fun hc2 => ?_)
    · skip
      have hd : okD y := Or.inl hc2
      refine gIloadN (pc := 21) hC dX2_cannotRepeat_21 rfl 2 rfl ?_
      refine gAloadN (pc := 22) hC dX2_cannotRepeat_22 rfl 0 rfl ?_
      refine mGetArr (pc := 23) hC 1 (a := (kl L)) (by decide) ⟨rfl, rfl, rfl⟩ hin2 hl14 dX2_cannotRepeat_23 ?_
      refine gIloadN (pc := 26) hC dX2_cannotRepeat_26 rfl 1 rfl ?_
      refine mLenLd (pc := 27) hC (v := (nI (Δ.2.1 (rI x)))) (rI x) (ei) (hi) (hle) dX2_cannotRepeat_27 ?_
      refine gIcmp_gt (pc := 28) hC (tgt := 35) dX2_cannotRepeat_28 (by decide) (fun hc3 => ?_) (fun hc3 => ?_)
      · skip
        have nokp : ¬ (okD y ∧ ¬ nI (Δ.2.1 (rI x)) < y) := fun q => q.2 hc3
        refine gIconst (pc := 35) hC (v := (nI 0)) dX2_cannotRepeat_35 (by decide +kernel) ?_
        refine gStk (st' := [.int (bI (okD y ∧ ¬ nI (Δ.2.1 (rI x)) < y)), .ref (kx L)]) (pc' := 36) (by rw [bI_f nokp]) rfl ?_
        refine gIconst (pc := 36) hC (v := (nI 2)) dX2_cannotRepeat_36 (by decide +kernel) ?_
        refine gV (pc := 37) (rest := []) (ci := 2) (q0 := 0) hC (c_X2_no l D L (mTh μ (if okR x then nI 0 else nI 1)) (okD y ∧ ¬ nI (Δ.2.1 (rI x)) < y) (nI 2)) rfl rfl (cwV 2 hC.2.2.2.2.1 gX2_cannotRepeat_X2_no rfl rfl rfl (by decide +kernel) ⟨Nat.le_of_ble_eq_true rfl, Nat.le_of_ble_eq_true rfl⟩) rfl rfl (Nat.le_of_ble_eq_true rfl) dX2_cannotRepeat_37 ⟨Nat.le_of_ble_eq_true rfl, Nat.le_of_ble_eq_true rfl⟩ (fun v w1 hp => ?_)
        obtain ⟨rfl, rfl⟩ := hp
        refine gStk (st' := [.int (bI (¬ (okD y ∧ ¬ nI (Δ.2.1 (rI x)) < y)))]) (pc' := 40) rfl rfl ?_
        refine gIf_eq (pc := 40) hC (tgt := 47) dX2_cannotRepeat_40 (by decide) (fun hc4 => absurd hc4 (bI_n.mpr nokp)) (fun hc4 => ?_)
        refine gIconst (pc := 43) hC (v := (nI 1)) dX2_cannotRepeat_43 (by decide +kernel) ?_
        refine gGoto (pc := 44) hC (tgt := 48) dX2_cannotRepeat_44 (by decide) ?_
        exact gRetZ hC hQ hr (rfl) (Nat.le_of_ble_eq_true rfl) (Nat.le_of_ble_eq_true rfl) dX2_cannotRepeat_48 (⟨_, rfl, by rw [kk2_2 ok nokp]; exact thr_f nokp, hR, by rw [bI_t (kne (kk2_2 ok nokp) ne2)]⟩)
      · skip
        have okp : (okD y ∧ ¬ nI (Δ.2.1 (rI x)) < y) := ⟨hd, hc3⟩
        refine gIconst (pc := 31) hC (v := (nI 1)) dX2_cannotRepeat_31 (by decide +kernel) ?_
        refine gGoto (pc := 32) hC (tgt := 36) dX2_cannotRepeat_32 (by decide) ?_
        refine gStk (st' := [.int (bI (okD y ∧ ¬ nI (Δ.2.1 (rI x)) < y)), .ref (kx L)]) (pc' := 36) (by rw [bI_t okp]) rfl ?_
        refine gIconst (pc := 36) hC (v := (nI 2)) dX2_cannotRepeat_36 (by decide +kernel) ?_
        refine gV (pc := 37) (rest := []) (ci := 2) (q0 := 0) hC (c_X2_no l D L (mTh μ (if okR x then nI 0 else nI 1)) (okD y ∧ ¬ nI (Δ.2.1 (rI x)) < y) (nI 2)) rfl rfl (cwV 2 hC.2.2.2.2.1 gX2_cannotRepeat_X2_no rfl rfl rfl (by decide +kernel) ⟨Nat.le_of_ble_eq_true rfl, Nat.le_of_ble_eq_true rfl⟩) rfl rfl (Nat.le_of_ble_eq_true rfl) dX2_cannotRepeat_37 ⟨Nat.le_of_ble_eq_true rfl, Nat.le_of_ble_eq_true rfl⟩ (fun v w1 hp => ?_)
        obtain ⟨rfl, rfl⟩ := hp
        refine gStk (st' := [.int (bI (¬ (okD y ∧ ¬ nI (Δ.2.1 (rI x)) < y)))]) (pc' := 40) rfl rfl ?_
        refine gIf_eq (pc := 40) hC (tgt := 47) dX2_cannotRepeat_40 (by decide) (fun hc5 => ?_) (fun hc5 => absurd (bI_0.mpr (fun q => q okp)) hc5)
        obtain ⟨ν6, eν6, hRν6, htν6⟩ : ∃ ζ : mSt, ζ = (mTh μ (if (okD y ∧ ¬ nI (Δ.2.1 (rI x)) < y) then nI 0 else nI 2)) ∧ mRel ζ Δ ∧ mt ζ = nI (kk2 (okR x) (okD y ∧ ¬ nI (Δ.2.1 (rI x)) < y)) := ⟨_, rfl, hR, (by rw [kk2_0 ok okp]; exact thr_t okp)⟩
        refine gWs (ws' := WM L ν6) (by first | (rw [eν6]; done) | (rw [eν6]; rfl)) ?_
        refine gIconst (pc := 47) hC (v := (nI 0)) dX2_cannotRepeat_47 (by decide +kernel) ?_
        exact gRetZ hC hQ hr (rfl) (Nat.le_of_ble_eq_true rfl) (Nat.le_of_ble_eq_true rfl) dX2_cannotRepeat_48 (⟨_, rfl, htν6, hRν6, by rw [bI_f (fun q => q (kk2_0 ok okp))]⟩)
    · skip
      refine gIloadN (pc := 14) hC dX2_cannotRepeat_14 rfl 2 rfl ?_
      refine gS (pc := 15) (rest := [.ref (kx L)]) hC (c_X2_isLength l D _ _ y) (va_cwS 1 hC.2.2.2.2.1 gX2_cannotRepeat_X2_isLength rfl rfl rfl (by decide +kernel) ⟨Nat.le_of_ble_eq_true rfl, Nat.le_of_ble_eq_true rfl⟩) rfl rfl (Nat.le_of_ble_eq_true rfl) dX2_cannotRepeat_15 ⟨Nat.le_of_ble_eq_true rfl, Nat.le_of_ble_eq_true rfl⟩ (fun v w1 hp => ?_)
      obtain ⟨rfl, rfl⟩ := hp
      refine gStk (st' := [.int (bI (okLI y)), .ref (kx L)]) (pc' := 18) rfl rfl ?_
      refine gIf_eq (pc := 18) hC (tgt := 35) dX2_cannotRepeat_18 (by decide) (fun hc7 => ?_) (fun hc7 => ?_)
      · skip
        have nokp : ¬ (okD y ∧ ¬ nI (Δ.2.1 (rI x)) < y) := fun q => by rcases q.1 with h | h; exact hc2 h; exact bI_0.mp hc7 h
        refine gIconst (pc := 35) hC (v := (nI 0)) dX2_cannotRepeat_35 (by decide +kernel) ?_
        refine gStk (st' := [.int (bI (okD y ∧ ¬ nI (Δ.2.1 (rI x)) < y)), .ref (kx L)]) (pc' := 36) (by rw [bI_f nokp]) rfl ?_
        refine gIconst (pc := 36) hC (v := (nI 2)) dX2_cannotRepeat_36 (by decide +kernel) ?_
        refine gV (pc := 37) (rest := []) (ci := 2) (q0 := 0) hC (c_X2_no l D L (mTh μ (if okR x then nI 0 else nI 1)) (okD y ∧ ¬ nI (Δ.2.1 (rI x)) < y) (nI 2)) rfl rfl (cwV 2 hC.2.2.2.2.1 gX2_cannotRepeat_X2_no rfl rfl rfl (by decide +kernel) ⟨Nat.le_of_ble_eq_true rfl, Nat.le_of_ble_eq_true rfl⟩) rfl rfl (Nat.le_of_ble_eq_true rfl) dX2_cannotRepeat_37 ⟨Nat.le_of_ble_eq_true rfl, Nat.le_of_ble_eq_true rfl⟩ (fun v w1 hp => ?_)
        obtain ⟨rfl, rfl⟩ := hp
        refine gStk (st' := [.int (bI (¬ (okD y ∧ ¬ nI (Δ.2.1 (rI x)) < y)))]) (pc' := 40) rfl rfl ?_
        refine gIf_eq (pc := 40) hC (tgt := 47) dX2_cannotRepeat_40 (by decide) (fun hc8 => absurd hc8 (bI_n.mpr nokp)) (fun hc8 => ?_)
        refine gIconst (pc := 43) hC (v := (nI 1)) dX2_cannotRepeat_43 (by decide +kernel) ?_
        refine gGoto (pc := 44) hC (tgt := 48) dX2_cannotRepeat_44 (by decide) ?_
        exact gRetZ hC hQ hr (rfl) (Nat.le_of_ble_eq_true rfl) (Nat.le_of_ble_eq_true rfl) dX2_cannotRepeat_48 (⟨_, rfl, by rw [kk2_2 ok nokp]; exact thr_f nokp, hR, by rw [bI_t (kne (kk2_2 ok nokp) ne2)]⟩)
      · skip
        have hd : okD y := Or.inr (bI_n.mp hc7)
        refine gIloadN (pc := 21) hC dX2_cannotRepeat_21 rfl 2 rfl ?_
        refine gAloadN (pc := 22) hC dX2_cannotRepeat_22 rfl 0 rfl ?_
        refine mGetArr (pc := 23) hC 1 (a := (kl L)) (by decide) ⟨rfl, rfl, rfl⟩ hin2 hl14 dX2_cannotRepeat_23 ?_
        refine gIloadN (pc := 26) hC dX2_cannotRepeat_26 rfl 1 rfl ?_
        refine mLenLd (pc := 27) hC (v := (nI (Δ.2.1 (rI x)))) (rI x) (ei) (hi) (hle) dX2_cannotRepeat_27 ?_
        refine gIcmp_gt (pc := 28) hC (tgt := 35) dX2_cannotRepeat_28 (by decide) (fun hc9 => ?_) (fun hc9 => ?_)
        · skip
          have nokp : ¬ (okD y ∧ ¬ nI (Δ.2.1 (rI x)) < y) := fun q => q.2 hc9
          refine gIconst (pc := 35) hC (v := (nI 0)) dX2_cannotRepeat_35 (by decide +kernel) ?_
          refine gStk (st' := [.int (bI (okD y ∧ ¬ nI (Δ.2.1 (rI x)) < y)), .ref (kx L)]) (pc' := 36) (by rw [bI_f nokp]) rfl ?_
          refine gIconst (pc := 36) hC (v := (nI 2)) dX2_cannotRepeat_36 (by decide +kernel) ?_
          refine gV (pc := 37) (rest := []) (ci := 2) (q0 := 0) hC (c_X2_no l D L (mTh μ (if okR x then nI 0 else nI 1)) (okD y ∧ ¬ nI (Δ.2.1 (rI x)) < y) (nI 2)) rfl rfl (cwV 2 hC.2.2.2.2.1 gX2_cannotRepeat_X2_no rfl rfl rfl (by decide +kernel) ⟨Nat.le_of_ble_eq_true rfl, Nat.le_of_ble_eq_true rfl⟩) rfl rfl (Nat.le_of_ble_eq_true rfl) dX2_cannotRepeat_37 ⟨Nat.le_of_ble_eq_true rfl, Nat.le_of_ble_eq_true rfl⟩ (fun v w1 hp => ?_)
          obtain ⟨rfl, rfl⟩ := hp
          refine gStk (st' := [.int (bI (¬ (okD y ∧ ¬ nI (Δ.2.1 (rI x)) < y)))]) (pc' := 40) rfl rfl ?_
          refine gIf_eq (pc := 40) hC (tgt := 47) dX2_cannotRepeat_40 (by decide) (fun hc10 => absurd hc10 (bI_n.mpr nokp)) (fun hc10 => ?_)
          refine gIconst (pc := 43) hC (v := (nI 1)) dX2_cannotRepeat_43 (by decide +kernel) ?_
          refine gGoto (pc := 44) hC (tgt := 48) dX2_cannotRepeat_44 (by decide) ?_
          exact gRetZ hC hQ hr (rfl) (Nat.le_of_ble_eq_true rfl) (Nat.le_of_ble_eq_true rfl) dX2_cannotRepeat_48 (⟨_, rfl, by rw [kk2_2 ok nokp]; exact thr_f nokp, hR, by rw [bI_t (kne (kk2_2 ok nokp) ne2)]⟩)
        · skip
          have okp : (okD y ∧ ¬ nI (Δ.2.1 (rI x)) < y) := ⟨hd, hc9⟩
          refine gIconst (pc := 31) hC (v := (nI 1)) dX2_cannotRepeat_31 (by decide +kernel) ?_
          refine gGoto (pc := 32) hC (tgt := 36) dX2_cannotRepeat_32 (by decide) ?_
          refine gStk (st' := [.int (bI (okD y ∧ ¬ nI (Δ.2.1 (rI x)) < y)), .ref (kx L)]) (pc' := 36) (by rw [bI_t okp]) rfl ?_
          refine gIconst (pc := 36) hC (v := (nI 2)) dX2_cannotRepeat_36 (by decide +kernel) ?_
          refine gV (pc := 37) (rest := []) (ci := 2) (q0 := 0) hC (c_X2_no l D L (mTh μ (if okR x then nI 0 else nI 1)) (okD y ∧ ¬ nI (Δ.2.1 (rI x)) < y) (nI 2)) rfl rfl (cwV 2 hC.2.2.2.2.1 gX2_cannotRepeat_X2_no rfl rfl rfl (by decide +kernel) ⟨Nat.le_of_ble_eq_true rfl, Nat.le_of_ble_eq_true rfl⟩) rfl rfl (Nat.le_of_ble_eq_true rfl) dX2_cannotRepeat_37 ⟨Nat.le_of_ble_eq_true rfl, Nat.le_of_ble_eq_true rfl⟩ (fun v w1 hp => ?_)
          obtain ⟨rfl, rfl⟩ := hp
          refine gStk (st' := [.int (bI (¬ (okD y ∧ ¬ nI (Δ.2.1 (rI x)) < y)))]) (pc' := 40) rfl rfl ?_
          refine gIf_eq (pc := 40) hC (tgt := 47) dX2_cannotRepeat_40 (by decide) (fun hc11 => ?_) (fun hc11 => absurd (bI_0.mpr (fun q => q okp)) hc11)
          obtain ⟨ν12, eν12, hRν12, htν12⟩ : ∃ ζ : mSt, ζ = (mTh μ (if (okD y ∧ ¬ nI (Δ.2.1 (rI x)) < y) then nI 0 else nI 2)) ∧ mRel ζ Δ ∧ mt ζ = nI (kk2 (okR x) (okD y ∧ ¬ nI (Δ.2.1 (rI x)) < y)) := ⟨_, rfl, hR, (by rw [kk2_0 ok okp]; exact thr_t okp)⟩
          refine gWs (ws' := WM L ν12) (by first | (rw [eν12]; done) | (rw [eν12]; rfl)) ?_
          refine gIconst (pc := 47) hC (v := (nI 0)) dX2_cannotRepeat_47 (by decide +kernel) ?_
          exact gRetZ hC hQ hr (rfl) (Nat.le_of_ble_eq_true rfl) (Nat.le_of_ble_eq_true rfl) dX2_cannotRepeat_48 (⟨_, rfl, htν12, hRν12, by rw [bI_f (fun q => q (kk2_0 ok okp))]⟩)

abbrev rmX2_repeat : Room := { frames := 3, cells := 0, slots := 0, locals := 65 }
set_option maxRecDepth 100000 in
set_option maxHeartbeats 4000000 in
theorem c_X2_repeat (l : Launch) (D : va_G) (L : mLay) (μ : mSt) (Δ : dSt) (x : Int32) (y : Int32) (hR : mRel μ Δ) : gM l yX2_repeat wsX2_repeat rmX2_repeat D (mTy L) (WM L μ) [.ref (kx L), .int x, .int y] 0 0 (fun r w => mPost L Δ (dRow Δ (rI x) (Δ.2.1 (rI x)) (fun i => (Δ.2.2 (rI x)) (i % (rI y)))) (kk2 (okR x) (okD y ∧ ¬ nI (Δ.2.1 (rI x)) < y)) (fun b => b = nI (cd (Δ.2.2 (rI x)) (fun i => (Δ.2.2 (rI x)) (i % (rI y))) (Δ.2.1 (rI x)))) r w) := by
  refine gM.of (cc := cX2_repeat) (maxL := 4) (ret := (some .int)) (own := RX2) (by decide) rfl rfl (Nat.le_of_ble_eq_true rfl) rfl ?_
  intro p e s m args below meth c A Q hC hr hnm hQ
  have hin2 : ∀ w ∈ u_ws RX2 TX2 6, w ∈ wsX2_repeat := by decide +kernel
  have hl11 : Cond.fieldLink RX2 11 "RootrowsModel" "numbers" "[[I" ∈ wsX2_repeat := by decide +kernel
  have hl14 : Cond.fieldLink RX2 14 "RootrowsModel" "lengths" "[I" ∈ wsX2_repeat := by decide +kernel
  have hl18 : Cond.fieldLink RX2 18 "RootrowsModel" "made" "[I" ∈ wsX2_repeat := by decide +kernel
  refine gAloadN (pc := 0) hC dX2_repeat_0 rfl 0 rfl ?_
  refine gIloadN (pc := 1) hC dX2_repeat_1 rfl 1 rfl ?_
  refine gIloadN (pc := 2) hC dX2_repeat_2 rfl 2 rfl ?_
  refine gV (pc := 3) (rest := []) (ci := 2) (q0 := 0) hC (c_X2_cannotRepeat l D L μ Δ x y hR) rfl rfl (cwV 2 hC.2.2.2.2.1 gX2_repeat_X2_cannotRepeat rfl rfl rfl (by decide +kernel) ⟨Nat.le_of_ble_eq_true rfl, Nat.le_of_ble_eq_true rfl⟩) rfl rfl (Nat.le_of_ble_eq_true rfl) dX2_repeat_3 ⟨Nat.le_of_ble_eq_true rfl, Nat.le_of_ble_eq_true rfl⟩ (fun v w1 hp => ?_)
  obtain ⟨μ1, rfl, ht1, hR1, rfl⟩ := hp
  refine gStk (st' := [.int (bI (¬ (kk2 (okR x) (okD y ∧ ¬ nI (Δ.2.1 (rI x)) < y)) = 0))]) (pc' := 6) rfl rfl ?_
  refine gIf_eq (pc := 6) hC (tgt := 11) dX2_repeat_6 (by decide) (fun hc1 => ?_) (fun hc1 => ?_)
  · skip
    have hk0 := nn (bI_0.mp hc1)
    obtain ⟨ok, oka⟩ := kk2_z hk0
    obtain ⟨hi, ei⟩ := ok.get
    have hl_ := hR1.okl hi
    have hle := hR1.len hi
    have hF := hR1.is hi
    have hz := hR1.zer hi
    have hN := hl_.N
    have hL := hN.le
    have hp := hN.pos
    have hx2 : Value.int x = Value.int (nI (rI x)) := congrArg Value.int ei
    refine gLocE (lv' := [(0, .ref (kx L)), (1, .int (nI (rI x))), (2, .int y)]) (by first | (rw [← hx2]; done) | (rw [← hx2]; rfl)) ?_
    obtain ⟨hd, ed⟩ := oka.1.get
    have hx3 : Value.int y = Value.int (nI (rI y)) := congrArg Value.int ed
    refine gLocE (lv' := [(0, .ref (kx L)), (1, .int (nI (rI x))), (2, .int (nI (rI y)))]) (by first | (rw [← hx3]; done) | (rw [← hx3]; rfl)) ?_
    have hd1 := hd.pos
    have hd2 := hd.le
    refine gIconst (pc := 11) hC (v := (nI 0)) dX2_repeat_11 (by decide +kernel) ?_
    refine gIstoreN (pc := 12) hC (lv' := [(3, .int (nI 0)), (0, .ref (kx L)), (1, .int (nI (rI x))), (2, .int (nI (rI y)))]) dX2_repeat_12 rfl (by decide) rfl ?_
    refine gLoc (lv' := [(3, .int (nI 0)), (0, .ref (kx L)), (1, .int (nI (rI x))), (2, .int (nI (rI y)))]) [0, 1, 2, 3] rfl ?_
    refine loopUp (S := mSt) (fun i ζ => gG p l e rmX2_repeat s m args below meth c D A 4 0 0 Q (WM L ζ) 13 [(3, .int (nI i)), (0, .ref (kx L)), (1, .int (nI (rI x))), (2, .int (nI (rI y)))] []) (fun i ζ => mFill μ1 (fun i => (Δ.2.2 (rI x)) (i % (rI y))) i ζ) (Δ.2.1 (rI x)) ?_ ?_ 0 (μ1) (by omega) (mFill.zero μ1 _)
    · intro ζ hI
      revert hI; generalize ζ = ν1; intro hI
      have hF9 := hI.is hF
      have hle9 := hI.len hle
      refine gIloadN (pc := 13) hC dX2_repeat_13 rfl 0 rfl ?_
      refine gAloadN (pc := 14) hC dX2_repeat_14 rfl 1 rfl ?_
      refine mGetArr (pc := 15) hC 1 (a := (kl L)) (by decide) ⟨rfl, rfl, rfl⟩ hin2 hl14 dX2_repeat_15 ?_
      refine gIloadN (pc := 18) hC dX2_repeat_18 rfl 2 rfl ?_
      refine mLenLd (pc := 19) hC (v := (nI (Δ.2.1 (rI x)))) (rI x) (rfl) (hi) (hle9) dX2_repeat_19 ?_
      refine gIcmp_ge (pc := 20) hC (tgt := 45) dX2_repeat_20 (by decide) (fun hc4 => ?_) (fun hc4 => absurd (nI_le (Nat.le_refl _) (by omega)) hc4)
      have h1 := hI
      refine gAloadN (pc := 45) hC dX2_repeat_45 rfl 1 rfl ?_
      refine gIloadN (pc := 46) hC dX2_repeat_46 rfl 2 rfl ?_
      refine gV (pc := 47) (rest := []) (ci := 2) (q0 := 0) hC (c_X2_put l D L ν1 (rI x) (Δ.2.1 (rI x)) (Δ.2.2 (rI x)) (fun i => (Δ.2.2 (rI x)) (i % (rI y))) hi (h1.len hle) (h1.is hF) h1.got (by omega)) rfl rfl (cwV 1 hC.2.2.2.2.1 gX2_repeat_X2_put rfl rfl rfl (by decide +kernel) ⟨Nat.le_of_ble_eq_true rfl, Nat.le_of_ble_eq_true rfl⟩) rfl rfl (Nat.le_of_ble_eq_true rfl) dX2_repeat_47 ⟨Nat.le_of_ble_eq_true rfl, Nat.le_of_ble_eq_true rfl⟩ (fun v w1 hp => ?_)
      obtain ⟨rfl, ν2, rfl, h2⟩ := hp
      refine gStk (st' := [.int (nI (cd (Δ.2.2 (rI x)) (fun i => (Δ.2.2 (rI x)) (i % (rI y))) (Δ.2.1 (rI x))))]) (pc' := 50) rfl rfl ?_
      exact gRetI hC hQ hr (Nat.le_of_ble_eq_true rfl) (Nat.le_of_ble_eq_true rfl) dX2_repeat_50 (⟨_, rfl, _, rfl, (h2.thr.trans (h1.thr.trans ht1)), Or.inl ⟨hk0, rfl, mFill.relput hR1 hi h1 h2⟩⟩)
    · intro i ζ hi9 hI ih
      revert hI; generalize ζ = ν1; intro hI
      have hF9 := hI.is hF
      have hle9 := hI.len hle
      refine gIloadN (pc := 13) hC dX2_repeat_13 rfl 0 rfl ?_
      refine gAloadN (pc := 14) hC dX2_repeat_14 rfl 1 rfl ?_
      refine mGetArr (pc := 15) hC 1 (a := (kl L)) (by decide) ⟨rfl, rfl, rfl⟩ hin2 hl14 dX2_repeat_15 ?_
      refine gIloadN (pc := 18) hC dX2_repeat_18 rfl 2 rfl ?_
      refine mLenLd (pc := 19) hC (v := (nI (Δ.2.1 (rI x)))) (rI x) (rfl) (hi) (hle9) dX2_repeat_19 ?_
      refine gIcmp_ge (pc := 20) hC (tgt := 45) dX2_repeat_20 (by decide) (fun hc5 => absurd hc5 (nI_ge hi9 (by omega))) (fun hc5 => ?_)
      refine gAloadN (pc := 23) hC dX2_repeat_23 rfl 1 rfl ?_
      refine mGetArr (pc := 24) hC 2 (a := (km L)) (by decide) ⟨rfl, rfl, rfl⟩ hin2 hl18 dX2_repeat_24 ?_
      refine gIloadN (pc := 27) hC dX2_repeat_27 rfl 0 rfl ?_
      refine gAloadN (pc := 28) hC dX2_repeat_28 rfl 1 rfl ?_
      refine mGetArr (pc := 29) hC 0 (a := (kn L)) (by decide) ⟨rfl, rfl, rfl⟩ hin2 hl11 dX2_repeat_29 ?_
      refine gIloadN (pc := 32) hC dX2_repeat_32 rfl 2 rfl ?_
      refine mRowAld (pc := 33) hC (rI x) (rfl) (hi) dX2_repeat_33 ?_
      refine gIloadN (pc := 34) hC dX2_repeat_34 rfl 0 rfl ?_
      refine gIloadN (pc := 35) hC dX2_repeat_35 rfl 3 rfl ?_
      refine gIrem (pc := 36) hC (v := (nI (i % (rI y)))) dX2_repeat_36 (nI_ne0 hd1 (by omega)) (pk_rem (by omega) hd1 (by omega)) ?_
      have hm9 := Nat.mod_le i (rI y)
      refine mNumLd (pc := 37) hC (K := (rI x)) (v := (nI ((Δ.2.2 (rI x)) (i % (rI y))).val)) (by omega) (i % (rI y)) (rfl) (by omega) (hF9 _ (by omega)) dX2_repeat_37 ?_
      obtain ⟨ν6, eν6⟩ : ∃ ζ : mSt, ζ = mMa ν1 (upd (mm ν1) i (nI ((Δ.2.2 (rI x)) (i % (rI y))).val)) := ⟨_, rfl⟩
      refine mMadSt (pc := 38) hC i (rfl) (by omega) eν6 dX2_repeat_38 ?_
      refine gIinc (pc := 39) hC (v := (nI (i + 1))) (lv' := [(3, .int (nI (i + 1))), (0, .ref (kx L)), (1, .int (nI (rI x))), (2, .int (nI (rI y)))]) dX2_repeat_39 (q := 0) rfl (nI_1 _) (by decide) rfl ?_
      refine gGoto (pc := 42) hC (tgt := 13) dX2_repeat_42 (by decide) ?_
      refine gLoc (lv' := [(3, .int (nI (i + 1))), (0, .ref (kx L)), (1, .int (nI (rI x))), (2, .int (nI (rI y)))]) [0, 1, 2, 3] rfl ?_
      exact ih (ν6) (hI.step eν6 rfl)
  · skip
    refine gIconst (pc := 9) hC (v := (nI 0)) dX2_repeat_9 (by decide +kernel) ?_
    exact gRetI hC hQ hr (Nat.le_of_ble_eq_true rfl) (Nat.le_of_ble_eq_true rfl) dX2_repeat_10 (⟨_, rfl, _, rfl, ht1, Or.inr ⟨bI_n.mp hc1, hR1⟩⟩)

abbrev rmX2_isAgain : Room := { frames := 3, cells := 0, slots := 0, locals := 65 }
set_option maxRecDepth 100000 in
set_option maxHeartbeats 4000000 in
theorem c_X2_isAgain (l : Launch) (D : va_G) (L : mLay) (μ : mSt) (Δ : dSt) (x : Int32) (y : Int32) (hR : mRel μ Δ) : gM l yX2_isAgain wsX2_isAgain rmX2_isAgain D (mTy L) (WM L μ) [.ref (kx L), .int x, .int y] 0 0 (fun r w => mPost L Δ Δ (kk2 (okR x) (okD y ∧ ¬ nI (Δ.2.1 (rI x)) < y)) (fun b => b = nI 1) r w) := by
  refine gM.of (cc := cX2_isAgain) (maxL := 3) (ret := (some .boolean)) (own := RX2) (by decide) rfl rfl (Nat.le_of_ble_eq_true rfl) rfl ?_
  intro p e s m args below meth c A Q hC hr hnm hQ
  refine gAloadN (pc := 0) hC dX2_isAgain_0 rfl 0 rfl ?_
  refine gIloadN (pc := 1) hC dX2_isAgain_1 rfl 1 rfl ?_
  refine gIloadN (pc := 2) hC dX2_isAgain_2 rfl 2 rfl ?_
  refine gV (pc := 3) (rest := []) (ci := 2) (q0 := 0) hC (c_X2_cannotRepeat l D L μ Δ x y hR) rfl rfl (cwV 2 hC.2.2.2.2.1 gX2_isAgain_X2_cannotRepeat rfl rfl rfl (by decide +kernel) ⟨Nat.le_of_ble_eq_true rfl, Nat.le_of_ble_eq_true rfl⟩) rfl rfl (Nat.le_of_ble_eq_true rfl) dX2_isAgain_3 ⟨Nat.le_of_ble_eq_true rfl, Nat.le_of_ble_eq_true rfl⟩ (fun v w1 hp => ?_)
  obtain ⟨μ1, rfl, ht1, hR1, rfl⟩ := hp
  refine gStk (st' := [.int (bI (¬ (kk2 (okR x) (okD y ∧ ¬ nI (Δ.2.1 (rI x)) < y)) = 0))]) (pc' := 6) rfl rfl ?_
  refine gIf_ne (pc := 6) hC (tgt := 13) dX2_isAgain_6 (by decide) (fun hc1 => ?_) (fun hc1 => ?_)
  · skip
    refine gIconst (pc := 13) hC (v := (nI 0)) dX2_isAgain_13 (by decide +kernel) ?_
    exact gRetZ hC hQ hr (rfl) (Nat.le_of_ble_eq_true rfl) (Nat.le_of_ble_eq_true rfl) dX2_isAgain_14 (⟨_, rfl, _, rfl, ht1, Or.inr ⟨bI_n.mp hc1, hR1⟩⟩)
  · skip
    have hk0 := nn (bI_0.mp hc1)
    obtain ⟨ok, oka⟩ := kk2_z hk0
    refine gIconst (pc := 9) hC (v := (nI 1)) dX2_isAgain_9 (by decide +kernel) ?_
    refine gGoto (pc := 10) hC (tgt := 14) dX2_isAgain_10 (by decide) ?_
    exact gRetZ hC hQ hr (rfl) (Nat.le_of_ble_eq_true rfl) (Nat.le_of_ble_eq_true rfl) dX2_isAgain_14 (⟨_, rfl, _, rfl, ht1, Or.inl ⟨hk0, rfl, hR1⟩⟩)

abbrev rmX2_invert : Room := { frames := 4, cells := 0, slots := 0, locals := 95 }
set_option maxRecDepth 100000 in
set_option maxHeartbeats 4000000 in
theorem c_X2_invert (l : Launch) (D : va_G) (L : mLay) (μ : mSt) (Δ : dSt) (x : Int32) (hR : mRel μ Δ) : gM l yX2_invert wsX2_invert rmX2_invert D (mTy L) (WM L μ) [.ref (kx L), .int x] 0 0 (fun r w => mPost L Δ (dRow Δ (rI x) (Δ.2.1 (rI x)) (bk (Δ.2.1 (rI x)) (un Δ.1 (Δ.2.1 (rI x))) (fun i => iv ((ps (Δ.2.1 (rI x)) (un Δ.1 (Δ.2.1 (rI x))) 1 (Δ.2.2 (rI x))) i)))) (kk2 (okR x) (cz (ps (Δ.2.1 (rI x)) (un Δ.1 (Δ.2.1 (rI x))) 1 (Δ.2.2 (rI x))) (Δ.2.1 (rI x)) = 0)) (fun b => b = nI ((bk (Δ.2.1 (rI x)) (un Δ.1 (Δ.2.1 (rI x))) (fun i => iv ((ps (Δ.2.1 (rI x)) (un Δ.1 (Δ.2.1 (rI x))) 1 (Δ.2.2 (rI x))) i))) 0).val) r w) := by
  refine gM.of (cc := cX2_invert) (maxL := 4) (ret := (some .int)) (own := RX2) (by decide) rfl rfl (Nat.le_of_ble_eq_true rfl) rfl ?_
  intro p e s m args below meth c A Q hC hr hnm hQ
  have hin2 : ∀ w ∈ u_ws RX2 TX2 6, w ∈ wsX2_invert := by decide +kernel
  have hl11 : Cond.fieldLink RX2 11 "RootrowsModel" "numbers" "[[I" ∈ wsX2_invert := by decide +kernel
  have hl14 : Cond.fieldLink RX2 14 "RootrowsModel" "lengths" "[I" ∈ wsX2_invert := by decide +kernel
  have hl18 : Cond.fieldLink RX2 18 "RootrowsModel" "made" "[I" ∈ wsX2_invert := by decide +kernel
  have hl21 : Cond.fieldLink RX2 21 "RootrowsModel" "other" "[I" ∈ wsX2_invert := by decide +kernel
  refine gAloadN (pc := 0) hC dX2_invert_0 rfl 0 rfl ?_
  refine gIloadN (pc := 1) hC dX2_invert_1 rfl 1 rfl ?_
  refine gV (pc := 2) (rest := []) (ci := 2) (q0 := 0) hC (c_X2_lacks l D L μ x) rfl rfl (cwV 1 hC.2.2.2.2.1 gX2_invert_X2_lacks rfl rfl rfl (by decide +kernel) ⟨Nat.le_of_ble_eq_true rfl, Nat.le_of_ble_eq_true rfl⟩) rfl rfl (Nat.le_of_ble_eq_true rfl) dX2_invert_2 ⟨Nat.le_of_ble_eq_true rfl, Nat.le_of_ble_eq_true rfl⟩ (fun v w1 hp => ?_)
  obtain ⟨rfl, rfl⟩ := hp
  refine gStk (st' := [.int (bI (¬ (okR x)))]) (pc' := 5) rfl rfl ?_
  refine gIf_eq (pc := 5) hC (tgt := 10) dX2_invert_5 (by decide) (fun hc1 => ?_) (fun hc1 => ?_)
  · skip
    have ok : okR x := nn (bI_0.mp hc1)
    obtain ⟨ν2, eν2, hRν2⟩ : ∃ ζ : mSt, ζ = (mTh μ (if okR x then nI 0 else nI 1)) ∧ mRel ζ Δ := ⟨_, rfl, hR⟩
    refine gWs (ws' := WM L ν2) (by first | (rw [eν2]; done) | (rw [eν2]; rfl)) ?_
    obtain ⟨hi, ei⟩ := ok.get
    have hl_ := hRν2.okl hi
    have hle := hRν2.len hi
    have hF := hRν2.is hi
    have hz := hRν2.zer hi
    have hN := hl_.N
    have hL := hN.le
    have hp := hN.pos
    have hx3 : Value.int x = Value.int (nI (rI x)) := congrArg Value.int ei
    refine gLocE (lv' := [(0, .ref (kx L)), (1, .int (nI (rI x)))]) (by first | (rw [← hx3]; done) | (rw [← hx3]; rfl)) ?_
    refine gAloadN (pc := 10) hC dX2_invert_10 rfl 0 rfl ?_
    refine gIloadN (pc := 11) hC dX2_invert_11 rfl 1 rfl ?_
    refine gV (pc := 12) (rest := []) (ci := 2) (q0 := 0) hC (c_X2_valuesOf l D L ν2 (rI x) Δ hi hRν2) rfl rfl (cwV 1 hC.2.2.2.2.1 gX2_invert_X2_valuesOf rfl rfl rfl (by decide +kernel) ⟨Nat.le_of_ble_eq_true rfl, Nat.le_of_ble_eq_true rfl⟩) rfl rfl (Nat.le_of_ble_eq_true rfl) dX2_invert_12 ⟨Nat.le_of_ble_eq_true rfl, Nat.le_of_ble_eq_true rfl⟩ (fun v w1 hp => ?_)
    obtain ⟨rfl, ν1, rfl, h1⟩ := hp
    refine gStk (st' := []) (pc' := 15) rfl rfl ?_
    refine gIconst (pc := 15) hC (v := (nI 1)) dX2_invert_15 (by decide +kernel) ?_
    refine gIstoreN (pc := 16) hC (lv' := [(2, .int (nI 1)), (0, .ref (kx L)), (1, .int (nI (rI x)))]) dX2_invert_16 rfl (by decide) rfl ?_
    refine gIconst (pc := 17) hC (v := (nI 0)) dX2_invert_17 (by decide +kernel) ?_
    refine gIstoreN (pc := 18) hC (lv' := [(3, .int (nI 0)), (2, .int (nI 1)), (0, .ref (kx L)), (1, .int (nI (rI x)))]) dX2_invert_18 rfl (by decide) rfl ?_
    refine gLoc (lv' := [(3, .int (nI 0)), (2, .int (nI 1)), (0, .ref (kx L)), (1, .int (nI (rI x)))]) [0, 1, 2, 3] rfl ?_
    refine loopUp (S := (mSt × Int32)) (fun i ζ => gG p l e rmX2_invert s m args below meth c D A 4 0 0 Q (WM L ζ.1) 19 [(3, .int (nI i)), (2, .int (ζ.2)), (0, .ref (kx L)), (1, .int (nI (rI x)))] []) (fun i ζ => mOth ν1 (fun i => iv ((ps (Δ.2.1 (rI x)) (un Δ.1 (Δ.2.1 (rI x))) 1 (Δ.2.2 (rI x))) i)) i ζ.1 ∧ ζ.2 = bI (∀ j, j < i → ¬ (ps (Δ.2.1 (rI x)) (un Δ.1 (Δ.2.1 (rI x))) 1 (Δ.2.2 (rI x))) j = 0)) (Δ.2.1 (rI x)) ?_ ?_ 0 (ν1, (nI 1)) (by omega) (⟨mOth.zero _ _, (bI_t (fun j hj => absurd hj (Nat.not_lt_zero j))).symm⟩)
    · intro ζ hI
      obtain ⟨ν2, c1⟩ := ζ
      try dsimp only at hI ⊢
      have hle9 : ml ν2 (rI x) = nI (Δ.2.1 (rI x)) := hI.1.len (h1.len hle)
      have hF9 : mIs ν2 (rI x) _ _ := hI.1.keep hi (h1.is hF)
      refine gIloadN (pc := 19) hC dX2_invert_19 rfl 0 rfl ?_
      refine gAloadN (pc := 20) hC dX2_invert_20 rfl 2 rfl ?_
      refine mGetArr (pc := 21) hC 1 (a := (kl L)) (by decide) ⟨rfl, rfl, rfl⟩ hin2 hl14 dX2_invert_21 ?_
      refine gIloadN (pc := 24) hC dX2_invert_24 rfl 3 rfl ?_
      refine mLenLd (pc := 25) hC (v := (nI (Δ.2.1 (rI x)))) (rI x) (rfl) (hi) (hle9) dX2_invert_25 ?_
      refine gIcmp_ge (pc := 26) hC (tgt := 69) dX2_invert_26 (by decide) (fun hc4 => ?_) (fun hc4 => absurd (nI_le (Nat.le_refl _) (by omega)) hc4)
      refine gAloadN (pc := 69) hC dX2_invert_69 rfl 2 rfl ?_
      refine gIloadN (pc := 70) hC dX2_invert_70 rfl 1 rfl ?_
      refine gStk (st' := [.int (bI (cz (ps (Δ.2.1 (rI x)) (un Δ.1 (Δ.2.1 (rI x))) 1 (Δ.2.2 (rI x))) (Δ.2.1 (rI x)) = 0)), .ref (kx L)]) (pc' := 71) (by rw [hI.2, bI_c cz_all]) rfl ?_
      refine gIconst (pc := 71) hC (v := (nI 2)) dX2_invert_71 (by decide +kernel) ?_
      refine gV (pc := 72) (rest := []) (ci := 2) (q0 := 0) hC (c_X2_no l D L ν2 (cz (ps (Δ.2.1 (rI x)) (un Δ.1 (Δ.2.1 (rI x))) 1 (Δ.2.2 (rI x))) (Δ.2.1 (rI x)) = 0) (nI 2)) rfl rfl (cwV 2 hC.2.2.2.2.1 gX2_invert_X2_no rfl rfl rfl (by decide +kernel) ⟨Nat.le_of_ble_eq_true rfl, Nat.le_of_ble_eq_true rfl⟩) rfl rfl (Nat.le_of_ble_eq_true rfl) dX2_invert_72 ⟨Nat.le_of_ble_eq_true rfl, Nat.le_of_ble_eq_true rfl⟩ (fun v w1 hp => ?_)
      obtain ⟨rfl, rfl⟩ := hp
      refine gStk (st' := [.int (bI (¬ (cz (ps (Δ.2.1 (rI x)) (un Δ.1 (Δ.2.1 (rI x))) 1 (Δ.2.2 (rI x))) (Δ.2.1 (rI x)) = 0)))]) (pc' := 75) rfl rfl ?_
      refine gIf_eq (pc := 75) hC (tgt := 80) dX2_invert_75 (by decide) (fun hc5 => ?_) (fun hc5 => ?_)
      · skip
        have okz : (cz (ps (Δ.2.1 (rI x)) (un Δ.1 (Δ.2.1 (rI x))) 1 (Δ.2.2 (rI x))) (Δ.2.1 (rI x)) = 0) := nn (bI_0.mp hc5)
        have hW : mIs (mTh ν2 (if (cz (ps (Δ.2.1 (rI x)) (un Δ.1 (Δ.2.1 (rI x))) 1 (Δ.2.2 (rI x))) (Δ.2.1 (rI x)) = 0) then nI 0 else nI 2)) 4 (Δ.2.1 (rI x)) (fun i => iv ((ps (Δ.2.1 (rI x)) (un Δ.1 (Δ.2.1 (rI x))) 1 (Δ.2.2 (rI x))) i)) := hI.1.is
        have hle8 : ml (mTh ν2 (if (cz (ps (Δ.2.1 (rI x)) (un Δ.1 (Δ.2.1 (rI x))) 1 (Δ.2.2 (rI x))) (Δ.2.1 (rI x)) = 0) then nI 0 else nI 2)) (rI x) = nI (Δ.2.1 (rI x)) := hle9
        have hF8 : mIs (mTh ν2 (if (cz (ps (Δ.2.1 (rI x)) (un Δ.1 (Δ.2.1 (rI x))) 1 (Δ.2.2 (rI x))) (Δ.2.1 (rI x)) = 0) then nI 0 else nI 2)) (rI x) (Δ.2.1 (rI x)) (Δ.2.2 (rI x)) := hF9
        have hrel : mRel (mTh ν2 (if (cz (ps (Δ.2.1 (rI x)) (un Δ.1 (Δ.2.1 (rI x))) 1 (Δ.2.2 (rI x))) (Δ.2.1 (rI x)) = 0) then nI 0 else nI 2)) Δ := hI.1.rel (h1.rel hRν2)
        have hthr : mt (mTh ν2 (if (cz (ps (Δ.2.1 (rI x)) (un Δ.1 (Δ.2.1 (rI x))) 1 (Δ.2.2 (rI x))) (Δ.2.1 (rI x)) = 0) then nI 0 else nI 2)) = nI (kk2 (okR x) (cz (ps (Δ.2.1 (rI x)) (un Δ.1 (Δ.2.1 (rI x))) 1 (Δ.2.2 (rI x))) (Δ.2.1 (rI x)) = 0)) := by rw [kk2_0 ok okz]; exact thr_t okz
        obtain ⟨ν5, e5⟩ : ∃ ζ : mSt, ζ = (mTh ν2 (if (cz (ps (Δ.2.1 (rI x)) (un Δ.1 (Δ.2.1 (rI x))) 1 (Δ.2.2 (rI x))) (Δ.2.1 (rI x)) = 0) then nI 0 else nI 2)) := ⟨_, rfl⟩
        refine gWs (ws' := WM L ν5) (by rw [e5]) ?_
        rw [← e5] at hW hle8 hF8 hrel hthr
        refine gAloadN (pc := 80) hC dX2_invert_80 rfl 2 rfl ?_
        refine gAloadN (pc := 81) hC dX2_invert_81 rfl 2 rfl ?_
        refine mGetArr (pc := 82) hC 3 (a := (ka L 4)) (by decide) ⟨rfl, rfl, rfl⟩ hin2 hl21 dX2_invert_82 ?_
        refine gAloadN (pc := 85) hC dX2_invert_85 rfl 2 rfl ?_
        refine mGetArr (pc := 86) hC 1 (a := (kl L)) (by decide) ⟨rfl, rfl, rfl⟩ hin2 hl14 dX2_invert_86 ?_
        refine gIloadN (pc := 89) hC dX2_invert_89 rfl 3 rfl ?_
        refine mLenLd (pc := 90) hC (v := (nI (Δ.2.1 (rI x)))) (rI x) (rfl) (hi) (hle8) dX2_invert_90 ?_
        refine gV (pc := 91) (rest := []) (ci := 2) (q0 := 0) hC (c_X2_backOf l D L ν5 4 (Δ.2.1 (rI x)) Δ.1 (fun i => iv ((ps (Δ.2.1 (rI x)) (un Δ.1 (Δ.2.1 (rI x))) 1 (Δ.2.2 (rI x))) i)) (by decide) hW hl_ hrel.1 hrel.2.1.2) rfl rfl (cwV 2 hC.2.2.2.2.1 gX2_invert_X2_backOf rfl rfl rfl (by decide +kernel) ⟨Nat.le_of_ble_eq_true rfl, Nat.le_of_ble_eq_true rfl⟩) rfl rfl (Nat.le_of_ble_eq_true rfl) dX2_invert_91 ⟨Nat.le_of_ble_eq_true rfl, Nat.le_of_ble_eq_true rfl⟩ (fun v w1 hp => ?_)
        obtain ⟨rfl, ν6, rfl, h6⟩ := hp
        refine gStk (st' := []) (pc' := 94) rfl rfl ?_
        refine gAloadN (pc := 94) hC dX2_invert_94 rfl 2 rfl ?_
        refine gIloadN (pc := 95) hC dX2_invert_95 rfl 3 rfl ?_
        refine gV (pc := 96) (rest := []) (ci := 2) (q0 := 0) hC (c_X2_put l D L ν6 (rI x) (Δ.2.1 (rI x)) (Δ.2.2 (rI x)) (bk (Δ.2.1 (rI x)) (un Δ.1 (Δ.2.1 (rI x))) (fun i => iv ((ps (Δ.2.1 (rI x)) (un Δ.1 (Δ.2.1 (rI x))) 1 (Δ.2.2 (rI x))) i))) hi (h6.len hle8) (h6.is hF8) h6.got (by omega)) rfl rfl (cwV 1 hC.2.2.2.2.1 gX2_invert_X2_put rfl rfl rfl (by decide +kernel) ⟨Nat.le_of_ble_eq_true rfl, Nat.le_of_ble_eq_true rfl⟩) rfl rfl (Nat.le_of_ble_eq_true rfl) dX2_invert_96 ⟨Nat.le_of_ble_eq_true rfl, Nat.le_of_ble_eq_true rfl⟩ (fun v w1 hp => ?_)
        obtain ⟨rfl, ν7, rfl, h7⟩ := hp
        refine gStk (st' := [.int (nI (cd (Δ.2.2 (rI x)) (bk (Δ.2.1 (rI x)) (un Δ.1 (Δ.2.1 (rI x))) (fun i => iv ((ps (Δ.2.1 (rI x)) (un Δ.1 (Δ.2.1 (rI x))) 1 (Δ.2.2 (rI x))) i))) (Δ.2.1 (rI x))))]) (pc' := 99) rfl rfl ?_
        refine gPop (pc := 99) hC dX2_invert_99 rfl ?_
        refine gAloadN (pc := 100) hC dX2_invert_100 rfl 2 rfl ?_
        refine mGetArr (pc := 101) hC 0 (a := (kn L)) (by decide) ⟨rfl, rfl, rfl⟩ hin2 hl11 dX2_invert_101 ?_
        refine gIloadN (pc := 104) hC dX2_invert_104 rfl 3 rfl ?_
        refine mRowAld (pc := 105) hC (rI x) (rfl) (hi) dX2_invert_105 ?_
        refine gIconst (pc := 106) hC (v := (nI 0)) dX2_invert_106 (by decide +kernel) ?_
        refine mNumLd (pc := 107) hC (K := (rI x)) (v := (nI ((bk (Δ.2.1 (rI x)) (un Δ.1 (Δ.2.1 (rI x))) (fun i => iv ((ps (Δ.2.1 (rI x)) (un Δ.1 (Δ.2.1 (rI x))) 1 (Δ.2.2 (rI x))) i))) 0).val)) (by omega) 0 (rfl) (by omega) (h7.is _ (by omega)) dX2_invert_107 ?_
        exact gRetI hC hQ hr (Nat.le_of_ble_eq_true rfl) (Nat.le_of_ble_eq_true rfl) dX2_invert_108 (⟨_, rfl, _, rfl, (h7.thr.trans (h6.thr.trans hthr)), Or.inl ⟨(kk2_0 ok okz), rfl, mFill.relput hrel hi h6 h7⟩⟩)
      · skip
        have nokz : ¬ (cz (ps (Δ.2.1 (rI x)) (un Δ.1 (Δ.2.1 (rI x))) 1 (Δ.2.2 (rI x))) (Δ.2.1 (rI x)) = 0) := bI_n.mp hc5
        refine gIconst (pc := 78) hC (v := (nI 0)) dX2_invert_78 (by decide +kernel) ?_
        exact gRetI hC hQ hr (Nat.le_of_ble_eq_true rfl) (Nat.le_of_ble_eq_true rfl) dX2_invert_79 (⟨_, rfl, _, rfl, by rw [kk2_2 ok nokz]; exact thr_f nokz, Or.inr ⟨kne (kk2_2 ok nokz) ne2, (hI.1.rel (h1.rel hRν2))⟩⟩)
    · intro i ζ hi9 hI ih
      obtain ⟨ν2, c1⟩ := ζ
      try dsimp only at hI ih ⊢
      have hle9 : ml ν2 (rI x) = nI (Δ.2.1 (rI x)) := hI.1.len (h1.len hle)
      have hM9 : ∀ j, j < (Δ.2.1 (rI x)) → mm ν2 j = nI ((ps (Δ.2.1 (rI x)) (un Δ.1 (Δ.2.1 (rI x))) 1 (Δ.2.2 (rI x))) j).val := fun j hj => hI.1.mad (h1.got j hj)
      refine gIloadN (pc := 19) hC dX2_invert_19 rfl 0 rfl ?_
      refine gAloadN (pc := 20) hC dX2_invert_20 rfl 2 rfl ?_
      refine mGetArr (pc := 21) hC 1 (a := (kl L)) (by decide) ⟨rfl, rfl, rfl⟩ hin2 hl14 dX2_invert_21 ?_
      refine gIloadN (pc := 24) hC dX2_invert_24 rfl 3 rfl ?_
      refine mLenLd (pc := 25) hC (v := (nI (Δ.2.1 (rI x)))) (rI x) (rfl) (hi) (hle9) dX2_invert_25 ?_
      refine gIcmp_ge (pc := 26) hC (tgt := 69) dX2_invert_26 (by decide) (fun hc6 => absurd hc6 (nI_ge hi9 (by omega))) (fun hc6 => ?_)
      refine gIloadN (pc := 29) hC dX2_invert_29 rfl 1 rfl ?_
      refine gIf_eq (pc := 30) hC (tgt := 46) dX2_invert_30 (by decide) (fun hc7 => ?_) (fun hc7 => ?_)
      · skip
        rw [hI.2] at hc7
        refine gIconst (pc := 46) hC (v := (nI 0)) dX2_invert_46 (by decide +kernel) ?_
        refine gIstoreN (pc := 47) hC (lv' := [(2, .int (nI 0)), (3, .int (nI i)), (0, .ref (kx L)), (1, .int (nI (rI x)))]) dX2_invert_47 rfl (by decide) rfl ?_
        refine gAloadN (pc := 48) hC dX2_invert_48 rfl 2 rfl ?_
        refine mGetArr (pc := 49) hC 3 (a := (ka L 4)) (by decide) ⟨rfl, rfl, rfl⟩ hin2 hl21 dX2_invert_49 ?_
        refine gIloadN (pc := 52) hC dX2_invert_52 rfl 1 rfl ?_
        refine gAloadN (pc := 53) hC dX2_invert_53 rfl 2 rfl ?_
        refine mGetArr (pc := 54) hC 2 (a := (km L)) (by decide) ⟨rfl, rfl, rfl⟩ hin2 hl18 dX2_invert_54 ?_
        refine gIloadN (pc := 57) hC dX2_invert_57 rfl 1 rfl ?_
        refine mMadLd (pc := 58) hC (v := (nI ((ps (Δ.2.1 (rI x)) (un Δ.1 (Δ.2.1 (rI x))) 1 (Δ.2.2 (rI x))) i).val)) i (rfl) (by omega) (hM9 _ (by omega)) dX2_invert_58 ?_
        refine gS (pc := 59) (rest := [.int (nI i), .ref (ka L 4)]) hC (c_X2_inverse l D _ _ _ ((ps (Δ.2.1 (rI x)) (un Δ.1 (Δ.2.1 (rI x))) 1 (Δ.2.2 (rI x))) i) rfl) (va_cwS 1 hC.2.2.2.2.1 gX2_invert_X2_inverse rfl rfl rfl (by decide +kernel) ⟨Nat.le_of_ble_eq_true rfl, Nat.le_of_ble_eq_true rfl⟩) rfl rfl (Nat.le_of_ble_eq_true rfl) dX2_invert_59 ⟨Nat.le_of_ble_eq_true rfl, Nat.le_of_ble_eq_true rfl⟩ (fun v w1 hp => ?_)
        obtain ⟨rfl, rfl⟩ := hp
        refine gStk (st' := [.int (nI (iv ((ps (Δ.2.1 (rI x)) (un Δ.1 (Δ.2.1 (rI x))) 1 (Δ.2.2 (rI x))) i)).val), .int (nI i), .ref (ka L 4)]) (pc' := 62) rfl rfl ?_
        obtain ⟨ν8, eν8⟩ : ∃ ζ : mSt, ζ = mRo ν2 4 (upd (mn ν2 4) i (nI (iv ((ps (Δ.2.1 (rI x)) (un Δ.1 (Δ.2.1 (rI x))) 1 (Δ.2.2 (rI x))) i)).val)) := ⟨_, rfl⟩
        refine mNumSt (pc := 62) hC (K := 4) (by decide) i (rfl) (by omega) eν8 dX2_invert_62 ?_
        refine gIinc (pc := 63) hC (v := (nI (i + 1))) (lv' := [(3, .int (nI (i + 1))), (2, .int (nI 0)), (0, .ref (kx L)), (1, .int (nI (rI x)))]) dX2_invert_63 (q := 1) rfl (nI_1 _) (by decide) rfl ?_
        refine gGoto (pc := 66) hC (tgt := 19) dX2_invert_66 (by decide) ?_
        refine gLoc (lv' := [(3, .int (nI (i + 1))), (2, .int (nI 0)), (0, .ref (kx L)), (1, .int (nI (rI x)))]) [0, 1, 2, 3] rfl ?_
        exact ih (ν8, (nI 0)) (⟨hI.1.step eν8 rfl, (bI_f (fun q => bI_0.mp hc7 (fun j hj => q j (by omega)))).symm⟩)
      · skip
        rw [hI.2] at hc7
        refine gAloadN (pc := 33) hC dX2_invert_33 rfl 2 rfl ?_
        refine mGetArr (pc := 34) hC 2 (a := (km L)) (by decide) ⟨rfl, rfl, rfl⟩ hin2 hl18 dX2_invert_34 ?_
        refine gIloadN (pc := 37) hC dX2_invert_37 rfl 0 rfl ?_
        refine mMadLd (pc := 38) hC (v := (nI ((ps (Δ.2.1 (rI x)) (un Δ.1 (Δ.2.1 (rI x))) 1 (Δ.2.2 (rI x))) i).val)) i (rfl) (by omega) (hM9 _ (by omega)) dX2_invert_38 ?_
        refine gIf_eq (pc := 39) hC (tgt := 46) dX2_invert_39 (by decide) (fun hc9 => ?_) (fun hc9 => ?_)
        · skip
          refine gIconst (pc := 46) hC (v := (nI 0)) dX2_invert_46 (by decide +kernel) ?_
          refine gIstoreN (pc := 47) hC (lv' := [(2, .int (nI 0)), (3, .int (nI i)), (0, .ref (kx L)), (1, .int (nI (rI x)))]) dX2_invert_47 rfl (by decide) rfl ?_
          refine gAloadN (pc := 48) hC dX2_invert_48 rfl 2 rfl ?_
          refine mGetArr (pc := 49) hC 3 (a := (ka L 4)) (by decide) ⟨rfl, rfl, rfl⟩ hin2 hl21 dX2_invert_49 ?_
          refine gIloadN (pc := 52) hC dX2_invert_52 rfl 1 rfl ?_
          refine gAloadN (pc := 53) hC dX2_invert_53 rfl 2 rfl ?_
          refine mGetArr (pc := 54) hC 2 (a := (km L)) (by decide) ⟨rfl, rfl, rfl⟩ hin2 hl18 dX2_invert_54 ?_
          refine gIloadN (pc := 57) hC dX2_invert_57 rfl 1 rfl ?_
          refine mMadLd (pc := 58) hC (v := (nI ((ps (Δ.2.1 (rI x)) (un Δ.1 (Δ.2.1 (rI x))) 1 (Δ.2.2 (rI x))) i).val)) i (rfl) (by omega) (hM9 _ (by omega)) dX2_invert_58 ?_
          refine gS (pc := 59) (rest := [.int (nI i), .ref (ka L 4)]) hC (c_X2_inverse l D _ _ _ ((ps (Δ.2.1 (rI x)) (un Δ.1 (Δ.2.1 (rI x))) 1 (Δ.2.2 (rI x))) i) rfl) (va_cwS 1 hC.2.2.2.2.1 gX2_invert_X2_inverse rfl rfl rfl (by decide +kernel) ⟨Nat.le_of_ble_eq_true rfl, Nat.le_of_ble_eq_true rfl⟩) rfl rfl (Nat.le_of_ble_eq_true rfl) dX2_invert_59 ⟨Nat.le_of_ble_eq_true rfl, Nat.le_of_ble_eq_true rfl⟩ (fun v w1 hp => ?_)
          obtain ⟨rfl, rfl⟩ := hp
          refine gStk (st' := [.int (nI (iv ((ps (Δ.2.1 (rI x)) (un Δ.1 (Δ.2.1 (rI x))) 1 (Δ.2.2 (rI x))) i)).val), .int (nI i), .ref (ka L 4)]) (pc' := 62) rfl rfl ?_
          obtain ⟨ν10, eν10⟩ : ∃ ζ : mSt, ζ = mRo ν2 4 (upd (mn ν2 4) i (nI (iv ((ps (Δ.2.1 (rI x)) (un Δ.1 (Δ.2.1 (rI x))) 1 (Δ.2.2 (rI x))) i)).val)) := ⟨_, rfl⟩
          refine mNumSt (pc := 62) hC (K := 4) (by decide) i (rfl) (by omega) eν10 dX2_invert_62 ?_
          refine gIinc (pc := 63) hC (v := (nI (i + 1))) (lv' := [(3, .int (nI (i + 1))), (2, .int (nI 0)), (0, .ref (kx L)), (1, .int (nI (rI x)))]) dX2_invert_63 (q := 1) rfl (nI_1 _) (by decide) rfl ?_
          refine gGoto (pc := 66) hC (tgt := 19) dX2_invert_66 (by decide) ?_
          refine gLoc (lv' := [(3, .int (nI (i + 1))), (2, .int (nI 0)), (0, .ref (kx L)), (1, .int (nI (rI x)))]) [0, 1, 2, 3] rfl ?_
          exact ih (ν10, (nI 0)) (⟨hI.1.step eν10 rfl, (bI_f (fun q => q i (Nat.lt_succ_self i) ((val0 _).mp hc9))).symm⟩)
        · skip
          refine gIconst (pc := 42) hC (v := (nI 1)) dX2_invert_42 (by decide +kernel) ?_
          refine gGoto (pc := 43) hC (tgt := 47) dX2_invert_43 (by decide) ?_
          refine gIstoreN (pc := 47) hC (lv' := [(2, .int (nI 1)), (3, .int (nI i)), (0, .ref (kx L)), (1, .int (nI (rI x)))]) dX2_invert_47 rfl (by decide) rfl ?_
          refine gAloadN (pc := 48) hC dX2_invert_48 rfl 2 rfl ?_
          refine mGetArr (pc := 49) hC 3 (a := (ka L 4)) (by decide) ⟨rfl, rfl, rfl⟩ hin2 hl21 dX2_invert_49 ?_
          refine gIloadN (pc := 52) hC dX2_invert_52 rfl 1 rfl ?_
          refine gAloadN (pc := 53) hC dX2_invert_53 rfl 2 rfl ?_
          refine mGetArr (pc := 54) hC 2 (a := (km L)) (by decide) ⟨rfl, rfl, rfl⟩ hin2 hl18 dX2_invert_54 ?_
          refine gIloadN (pc := 57) hC dX2_invert_57 rfl 1 rfl ?_
          refine mMadLd (pc := 58) hC (v := (nI ((ps (Δ.2.1 (rI x)) (un Δ.1 (Δ.2.1 (rI x))) 1 (Δ.2.2 (rI x))) i).val)) i (rfl) (by omega) (hM9 _ (by omega)) dX2_invert_58 ?_
          refine gS (pc := 59) (rest := [.int (nI i), .ref (ka L 4)]) hC (c_X2_inverse l D _ _ _ ((ps (Δ.2.1 (rI x)) (un Δ.1 (Δ.2.1 (rI x))) 1 (Δ.2.2 (rI x))) i) rfl) (va_cwS 1 hC.2.2.2.2.1 gX2_invert_X2_inverse rfl rfl rfl (by decide +kernel) ⟨Nat.le_of_ble_eq_true rfl, Nat.le_of_ble_eq_true rfl⟩) rfl rfl (Nat.le_of_ble_eq_true rfl) dX2_invert_59 ⟨Nat.le_of_ble_eq_true rfl, Nat.le_of_ble_eq_true rfl⟩ (fun v w1 hp => ?_)
          obtain ⟨rfl, rfl⟩ := hp
          refine gStk (st' := [.int (nI (iv ((ps (Δ.2.1 (rI x)) (un Δ.1 (Δ.2.1 (rI x))) 1 (Δ.2.2 (rI x))) i)).val), .int (nI i), .ref (ka L 4)]) (pc' := 62) rfl rfl ?_
          obtain ⟨ν11, eν11⟩ : ∃ ζ : mSt, ζ = mRo ν2 4 (upd (mn ν2 4) i (nI (iv ((ps (Δ.2.1 (rI x)) (un Δ.1 (Δ.2.1 (rI x))) 1 (Δ.2.2 (rI x))) i)).val)) := ⟨_, rfl⟩
          refine mNumSt (pc := 62) hC (K := 4) (by decide) i (rfl) (by omega) eν11 dX2_invert_62 ?_
          refine gIinc (pc := 63) hC (v := (nI (i + 1))) (lv' := [(3, .int (nI (i + 1))), (2, .int (nI 1)), (0, .ref (kx L)), (1, .int (nI (rI x)))]) dX2_invert_63 (q := 1) rfl (nI_1 _) (by decide) rfl ?_
          refine gGoto (pc := 66) hC (tgt := 19) dX2_invert_66 (by decide) ?_
          refine gLoc (lv' := [(3, .int (nI (i + 1))), (2, .int (nI 1)), (0, .ref (kx L)), (1, .int (nI (rI x)))]) [0, 1, 2, 3] rfl ?_
          exact ih (ν11, (nI 1)) (⟨hI.1.step eν11 rfl, (bI_t (lt_s (bI_n.mp hc7) (fun q => hc9 ((val0 _).mpr q)))).symm⟩)
  · skip
    have nok : ¬ (okR x) := bI_n.mp hc1
    refine gIconst (pc := 8) hC (v := (nI 0)) dX2_invert_8 (by decide +kernel) ?_
    exact gRetI hC hQ hr (Nat.le_of_ble_eq_true rfl) (Nat.le_of_ble_eq_true rfl) dX2_invert_9 (⟨_, rfl, _, rfl, by rw [kk2_1 nok]; exact thr_f nok, Or.inr ⟨kne (kk2_1 nok) ne1, hR⟩⟩)

abbrev rmX2_own : Room := { frames := 3, cells := 0, slots := 0, locals := 73 }
set_option maxRecDepth 100000 in
set_option maxHeartbeats 4000000 in
theorem c_X2_own (l : Launch) (D : va_G) (L : mLay) (μ : mSt) (Δ : dSt) (x : Int32) (hR : mRel μ Δ) : gM l yX2_own wsX2_own rmX2_own D (mTy L) (WM L μ) [.ref (kx L), .int x] 0 0 (fun r w => mPost L Δ (dRow Δ (rI x) (Δ.2.1 (rI x)) (ow (Δ.2.1 (rI x)) (un Δ.1 (Δ.2.1 (rI x))) (Δ.2.2 (rI x)))) (kk1 (okR x)) (fun b => b = nI (cz (ow (Δ.2.1 (rI x)) (un Δ.1 (Δ.2.1 (rI x))) (Δ.2.2 (rI x))) (Δ.2.1 (rI x)))) r w) := by
  refine gM.of (cc := cX2_own) (maxL := 5) (ret := (some .int)) (own := RX2) (by decide) rfl rfl (Nat.le_of_ble_eq_true rfl) rfl ?_
  intro p e s m args below meth c A Q hC hr hnm hQ
  have hin2 : ∀ w ∈ u_ws RX2 TX2 6, w ∈ wsX2_own := by decide +kernel
  have hl11 : Cond.fieldLink RX2 11 "RootrowsModel" "numbers" "[[I" ∈ wsX2_own := by decide +kernel
  have hl14 : Cond.fieldLink RX2 14 "RootrowsModel" "lengths" "[I" ∈ wsX2_own := by decide +kernel
  have hl18 : Cond.fieldLink RX2 18 "RootrowsModel" "made" "[I" ∈ wsX2_own := by decide +kernel
  have hl21 : Cond.fieldLink RX2 21 "RootrowsModel" "other" "[I" ∈ wsX2_own := by decide +kernel
  refine gAloadN (pc := 0) hC dX2_own_0 rfl 0 rfl ?_
  refine gIloadN (pc := 1) hC dX2_own_1 rfl 1 rfl ?_
  refine gV (pc := 2) (rest := []) (ci := 2) (q0 := 0) hC (c_X2_lacks l D L μ x) rfl rfl (cwV 1 hC.2.2.2.2.1 gX2_own_X2_lacks rfl rfl rfl (by decide +kernel) ⟨Nat.le_of_ble_eq_true rfl, Nat.le_of_ble_eq_true rfl⟩) rfl rfl (Nat.le_of_ble_eq_true rfl) dX2_own_2 ⟨Nat.le_of_ble_eq_true rfl, Nat.le_of_ble_eq_true rfl⟩ (fun v w1 hp => ?_)
  obtain ⟨rfl, rfl⟩ := hp
  refine gStk (st' := [.int (bI (¬ (okR x)))]) (pc' := 5) rfl rfl ?_
  refine gIf_eq (pc := 5) hC (tgt := 10) dX2_own_5 (by decide) (fun hc1 => ?_) (fun hc1 => ?_)
  · skip
    have ok : okR x := nn (bI_0.mp hc1)
    obtain ⟨ν2, eν2, hRν2, htν2⟩ : ∃ ζ : mSt, ζ = (mTh μ (if okR x then nI 0 else nI 1)) ∧ mRel ζ Δ ∧ mt ζ = nI (kk1 (okR x)) := ⟨_, rfl, hR, (by rw [kk1_0 ok]; exact thr_t ok)⟩
    refine gWs (ws' := WM L ν2) (by first | (rw [eν2]; done) | (rw [eν2]; rfl)) ?_
    obtain ⟨hi, ei⟩ := ok.get
    have hl_ := hRν2.okl hi
    have hle := hRν2.len hi
    have hF := hRν2.is hi
    have hz := hRν2.zer hi
    have hN := hl_.N
    have hL := hN.le
    have hp := hN.pos
    have hx3 : Value.int x = Value.int (nI (rI x)) := congrArg Value.int ei
    refine gLocE (lv' := [(0, .ref (kx L)), (1, .int (nI (rI x)))]) (by first | (rw [← hx3]; done) | (rw [← hx3]; rfl)) ?_
    refine gAloadN (pc := 10) hC dX2_own_10 rfl 0 rfl ?_
    refine mGetArr (pc := 11) hC 1 (a := (kl L)) (by decide) ⟨rfl, rfl, rfl⟩ hin2 hl14 dX2_own_11 ?_
    refine gIloadN (pc := 14) hC dX2_own_14 rfl 1 rfl ?_
    refine mLenLd (pc := 15) hC (v := (nI (Δ.2.1 (rI x)))) (rI x) (rfl) (hi) (hle) dX2_own_15 ?_
    refine gIstoreN (pc := 16) hC (lv' := [(2, .int (nI (Δ.2.1 (rI x)))), (0, .ref (kx L)), (1, .int (nI (rI x)))]) dX2_own_16 rfl (by decide) rfl ?_
    have join : gG p l e rmX2_own s m args below meth c D A 5 0 0 Q (WM L ν2) 50 [(2, .int (nI (Δ.2.1 (rI x)))), (0, .ref (kx L)), (1, .int (nI (rI x)))] [.int (nI (osc (Δ.2.1 (rI x))))] := by
      refine gIstoreN (pc := 50) hC (lv' := [(3, .int (nI (osc (Δ.2.1 (rI x))))), (2, .int (nI (Δ.2.1 (rI x)))), (0, .ref (kx L)), (1, .int (nI (rI x)))]) dX2_own_50 rfl (by decide) rfl ?_
      refine gAloadN (pc := 51) hC dX2_own_51 rfl 2 rfl ?_
      refine gIloadN (pc := 52) hC dX2_own_52 rfl 3 rfl ?_
      refine gV (pc := 53) (rest := []) (ci := 2) (q0 := 0) hC (c_X2_turned l D L ν2 (rI x) (Δ.2.1 (rI x)) (Δ.2.2 (rI x)) hi hle hF hN) rfl rfl (cwV 1 hC.2.2.2.2.1 gX2_own_X2_turned rfl rfl rfl (by decide +kernel) ⟨Nat.le_of_ble_eq_true rfl, Nat.le_of_ble_eq_true rfl⟩) rfl rfl (Nat.le_of_ble_eq_true rfl) dX2_own_53 ⟨Nat.le_of_ble_eq_true rfl, Nat.le_of_ble_eq_true rfl⟩ (fun v w1 hp => ?_)
      obtain ⟨rfl, ν1, rfl, h1⟩ := hp
      refine gStk (st' := []) (pc' := 56) rfl rfl ?_
      refine gIconst (pc := 56) hC (v := (nI 0)) dX2_own_56 (by decide +kernel) ?_
      refine gIstore (pc := 57) hC (lv' := [(4, .int (nI 0)), (3, .int (nI (osc (Δ.2.1 (rI x))))), (2, .int (nI (Δ.2.1 (rI x)))), (0, .ref (kx L)), (1, .int (nI (rI x)))]) dX2_own_57 (by decide) rfl ?_
      refine gLoc (lv' := [(4, .int (nI 0)), (0, .ref (kx L)), (1, .int (nI (rI x))), (2, .int (nI (Δ.2.1 (rI x)))), (3, .int (nI (osc (Δ.2.1 (rI x)))))]) [0, 3, 4, 2, 1] rfl ?_
      refine loopUp (S := mSt) (fun i ζ => gG p l e rmX2_own s m args below meth c D A 5 0 0 Q (WM L ζ) 59 [(4, .int (nI i)), (0, .ref (kx L)), (1, .int (nI (rI x))), (2, .int (nI (Δ.2.1 (rI x)))), (3, .int (nI (osc (Δ.2.1 (rI x)))))] []) (fun i ζ => mOth ν1 (fun i => (Δ.2.2 (rI x)) i + (Δ.2.2 (rI x)) (ix (Δ.2.1 (rI x)) (-(i : Int)))) i ζ) (Δ.2.1 (rI x)) ?_ ?_ 0 (ν1) (by omega) (mOth.zero _ _)
      · intro ζ hI
        revert hI; generalize ζ = ν2; intro hI
        refine gIload (pc := 59) hC dX2_own_59 0 rfl ?_
        refine gIloadN (pc := 61) hC dX2_own_61 rfl 3 rfl ?_
        refine gIcmp_ge (pc := 62) hC (tgt := 98) dX2_own_62 (by decide) (fun hc4 => ?_) (fun hc4 => absurd (nI_le (Nat.le_refl _) (by omega)) hc4)
        have hO := hI
        refine gAloadN (pc := 98) hC dX2_own_98 rfl 1 rfl ?_
        refine gAloadN (pc := 99) hC dX2_own_99 rfl 1 rfl ?_
        refine mGetArr (pc := 100) hC 3 (a := (ka L 4)) (by decide) ⟨rfl, rfl, rfl⟩ hin2 hl21 dX2_own_100 ?_
        refine gIloadN (pc := 103) hC dX2_own_103 rfl 3 rfl ?_
        refine gIconst (pc := 104) hC (v := (nI 1)) dX2_own_104 (by decide +kernel) ?_
        refine gIconst (pc := 105) hC (v := (nI 0)) dX2_own_105 (by decide +kernel) ?_
        refine gV (pc := 106) (rest := []) (ci := 2) (q0 := 0) hC (c_X2_sums l D L ν2 4 (Δ.2.1 (rI x)) Δ.1 (fun i => (Δ.2.2 (rI x)) i + (Δ.2.2 (rI x)) (ix (Δ.2.1 (rI x)) (-(i : Int)))) (nI 1) 1 0 (by decide) hO.is hN ((hO.rel (h1.rel hRν2)).1) ((hO.rel (h1.rel hRν2)).2.1.2) rfl (by decide)) rfl rfl (cwV 4 hC.2.2.2.2.1 gX2_own_X2_sums rfl rfl rfl (by decide +kernel) ⟨Nat.le_of_ble_eq_true rfl, Nat.le_of_ble_eq_true rfl⟩) rfl rfl (Nat.le_of_ble_eq_true rfl) dX2_own_106 ⟨Nat.le_of_ble_eq_true rfl, Nat.le_of_ble_eq_true rfl⟩ (fun v w1 hp => ?_)
        obtain ⟨rfl, ν3, rfl, h3⟩ := hp
        refine gStk (st' := []) (pc' := 109) rfl rfl ?_
        have hO3 := h3.is hO.is
        have hle3 := h3.len (hO.len (h1.len hle))
        have hF3 := h3.is (hO.keep hi (h1.is hF))
        refine gIconst (pc := 109) hC (v := (nI 0)) dX2_own_109 (by decide +kernel) ?_
        refine gIstore (pc := 110) hC (lv' := [(4, .int (nI 0)), (0, .ref (kx L)), (1, .int (nI (rI x))), (2, .int (nI (Δ.2.1 (rI x)))), (3, .int (nI (osc (Δ.2.1 (rI x)))))]) dX2_own_110 (by decide) rfl ?_
        refine gLoc (lv' := [(4, .int (nI 0)), (0, .ref (kx L)), (1, .int (nI (rI x))), (2, .int (nI (Δ.2.1 (rI x)))), (3, .int (nI (osc (Δ.2.1 (rI x)))))]) [0, 1, 2, 3, 4] rfl ?_
        refine loopUp (S := mSt) (fun i ζ => gG p l e rmX2_own s m args below meth c D A 5 0 0 Q (WM L ζ) 112 [(4, .int (nI i)), (0, .ref (kx L)), (1, .int (nI (rI x))), (2, .int (nI (Δ.2.1 (rI x)))), (3, .int (nI (osc (Δ.2.1 (rI x)))))] []) (fun i ζ => mRed ν3 (ow (Δ.2.1 (rI x)) (un Δ.1 (Δ.2.1 (rI x))) (Δ.2.2 (rI x))) i ζ) (Δ.2.1 (rI x)) ?_ ?_ 0 (ν3) (by omega) (mRed.zero _ _)
        · intro ζ hI
          revert hI; generalize ζ = ν4; intro hI
          refine gIload (pc := 112) hC dX2_own_112 0 rfl ?_
          refine gIloadN (pc := 114) hC dX2_own_114 rfl 3 rfl ?_
          refine gIcmp_ge (pc := 115) hC (tgt := 151) dX2_own_115 (by decide) (fun hc5 => ?_) (fun hc5 => absurd (nI_le (Nat.le_refl _) (by omega)) hc5)
          have h4 := hI.fill
          refine gAloadN (pc := 151) hC dX2_own_151 rfl 1 rfl ?_
          refine gIloadN (pc := 152) hC dX2_own_152 rfl 2 rfl ?_
          refine gV (pc := 153) (rest := []) (ci := 2) (q0 := 0) hC (c_X2_putZeros l D L ν4 (rI x) (Δ.2.1 (rI x)) (Δ.2.2 (rI x)) (ow (Δ.2.1 (rI x)) (un Δ.1 (Δ.2.1 (rI x))) (Δ.2.2 (rI x))) hi (h4.len hle3) (h4.is hF3) h4.got (by omega)) rfl rfl (cwV 1 hC.2.2.2.2.1 gX2_own_X2_putZeros rfl rfl rfl (by decide +kernel) ⟨Nat.le_of_ble_eq_true rfl, Nat.le_of_ble_eq_true rfl⟩) rfl rfl (Nat.le_of_ble_eq_true rfl) dX2_own_153 ⟨Nat.le_of_ble_eq_true rfl, Nat.le_of_ble_eq_true rfl⟩ (fun v w1 hp => ?_)
          obtain ⟨rfl, ν5, rfl, h5⟩ := hp
          refine gStk (st' := [.int (nI (cz (ow (Δ.2.1 (rI x)) (un Δ.1 (Δ.2.1 (rI x))) (Δ.2.2 (rI x))) (Δ.2.1 (rI x))))]) (pc' := 156) rfl rfl ?_
          exact gRetI hC hQ hr (Nat.le_of_ble_eq_true rfl) (Nat.le_of_ble_eq_true rfl) dX2_own_156 (⟨_, rfl, _, rfl, (h5.thr.trans (h4.thr.trans (h3.thr.trans (hO.thr.trans (h1.thr.trans htν2))))), Or.inl ⟨(kk1_0 ok), rfl, mFill.relput (h3.rel (hO.rel (h1.rel hRν2))) hi h4 h5⟩⟩)
        · intro i ζ hi9 hI ih
          revert hI; generalize ζ = ν4; intro hI
          refine gIload (pc := 112) hC dX2_own_112 0 rfl ?_
          refine gIloadN (pc := 114) hC dX2_own_114 rfl 3 rfl ?_
          refine gIcmp_ge (pc := 115) hC (tgt := 151) dX2_own_115 (by decide) (fun hc6 => absurd hc6 (nI_ge hi9 (by omega))) (fun hc6 => ?_)
          refine gAloadN (pc := 118) hC dX2_own_118 rfl 1 rfl ?_
          refine mGetArr (pc := 119) hC 2 (a := (km L)) (by decide) ⟨rfl, rfl, rfl⟩ hin2 hl18 dX2_own_119 ?_
          refine gIload (pc := 122) hC dX2_own_122 0 rfl ?_
          refine gIloadN (pc := 124) hC dX2_own_124 rfl 4 rfl ?_
          refine gI2l (pc := 125) hC (v := (lN (nR (osc (Δ.2.1 (rI x)))).val)) dX2_own_125 (by rw [nR_val (osc_lt _)]; exact nI_l (by have := osc_lt (Δ.2.1 (rI x)); omega)) ?_
          refine gAloadN (pc := 126) hC dX2_own_126 rfl 1 rfl ?_
          refine mGetArr (pc := 127) hC 3 (a := (ka L 4)) (by decide) ⟨rfl, rfl, rfl⟩ hin2 hl21 dX2_own_127 ?_
          refine gIload (pc := 130) hC dX2_own_130 0 rfl ?_
          refine mNumLd (pc := 132) hC (K := 4) (v := (nI ((fun i => (Δ.2.2 (rI x)) i + (Δ.2.2 (rI x)) (ix (Δ.2.1 (rI x)) (-(i : Int)))) i).val)) (by decide) i (rfl) (by omega) (hI.fill.is hO3 i hi9) dX2_own_132 ?_
          refine gI2l (pc := 133) hC (v := (lN ((fun i => (Δ.2.2 (rI x)) i + (Δ.2.2 (rI x)) (ix (Δ.2.1 (rI x)) (-(i : Int)))) i).val)) dX2_own_133 (nI_l (by have := ((fun i => (Δ.2.2 (rI x)) i + (Δ.2.2 (rI x)) (ix (Δ.2.1 (rI x)) (-(i : Int)))) i).isLt; omega)) ?_
          refine gAloadN (pc := 134) hC dX2_own_134 rfl 1 rfl ?_
          refine mGetArr (pc := 135) hC 2 (a := (km L)) (by decide) ⟨rfl, rfl, rfl⟩ hin2 hl18 dX2_own_135 ?_
          refine gIload (pc := 138) hC dX2_own_138 0 rfl ?_
          refine mMadLd (pc := 140) hC (v := (nI (ps (Δ.2.1 (rI x)) (un Δ.1 (Δ.2.1 (rI x))) 1 (fun i => (Δ.2.2 (rI x)) i + (Δ.2.2 (rI x)) (ix (Δ.2.1 (rI x)) (-(i : Int)))) i * pw 0).val)) i (rfl) (by omega) ((hI.old (Nat.le_refl i)).trans (h3.got i hi9)) dX2_own_140 ?_
          refine gS (pc := 141) (rest := [.int (nI i), .ref (km L)]) hC (c_X2_product l D _ _ _ _ _ (nR (osc (Δ.2.1 (rI x)))) ((fun i => (Δ.2.2 (rI x)) i + (Δ.2.2 (rI x)) (ix (Δ.2.1 (rI x)) (-(i : Int)))) i) (ps (Δ.2.1 (rI x)) (un Δ.1 (Δ.2.1 (rI x))) 1 (fun i => (Δ.2.2 (rI x)) i + (Δ.2.2 (rI x)) (ix (Δ.2.1 (rI x)) (-(i : Int)))) i * pw 0) rfl rfl rfl) (va_cwS 3 hC.2.2.2.2.1 gX2_own_X2_product rfl rfl rfl (by decide +kernel) ⟨Nat.le_of_ble_eq_true rfl, Nat.le_of_ble_eq_true rfl⟩) rfl rfl (Nat.le_of_ble_eq_true rfl) dX2_own_141 ⟨Nat.le_of_ble_eq_true rfl, Nat.le_of_ble_eq_true rfl⟩ (fun v w1 hp => ?_)
          obtain ⟨rfl, rfl⟩ := hp
          refine gStk (st' := [.int (nI (nR (osc (Δ.2.1 (rI x))) * (fun i => (Δ.2.2 (rI x)) i + (Δ.2.2 (rI x)) (ix (Δ.2.1 (rI x)) (-(i : Int)))) i + (ps (Δ.2.1 (rI x)) (un Δ.1 (Δ.2.1 (rI x))) 1 (fun i => (Δ.2.2 (rI x)) i + (Δ.2.2 (rI x)) (ix (Δ.2.1 (rI x)) (-(i : Int)))) i * pw 0)).val), .int (nI i), .ref (km L)]) (pc' := 144) rfl rfl ?_
          obtain ⟨ν7, eν7⟩ : ∃ ζ : mSt, ζ = mMa ν4 (upd (mm ν4) i (nI (nR (osc (Δ.2.1 (rI x))) * (fun i => (Δ.2.2 (rI x)) i + (Δ.2.2 (rI x)) (ix (Δ.2.1 (rI x)) (-(i : Int)))) i + (ps (Δ.2.1 (rI x)) (un Δ.1 (Δ.2.1 (rI x))) 1 (fun i => (Δ.2.2 (rI x)) i + (Δ.2.2 (rI x)) (ix (Δ.2.1 (rI x)) (-(i : Int)))) i * pw 0)).val)) := ⟨_, rfl⟩
          refine mMadSt (pc := 144) hC i (rfl) (by omega) eν7 dX2_own_144 ?_
          refine gIinc (pc := 145) hC (v := (nI (i + 1))) (lv' := [(4, .int (nI (i + 1))), (0, .ref (kx L)), (1, .int (nI (rI x))), (2, .int (nI (Δ.2.1 (rI x)))), (3, .int (nI (osc (Δ.2.1 (rI x)))))]) dX2_own_145 (q := 0) rfl (nI_1 _) (by decide) rfl ?_
          refine gGoto (pc := 148) hC (tgt := 112) dX2_own_148 (by decide) ?_
          refine gLoc (lv' := [(4, .int (nI (i + 1))), (0, .ref (kx L)), (1, .int (nI (rI x))), (2, .int (nI (Δ.2.1 (rI x)))), (3, .int (nI (osc (Δ.2.1 (rI x)))))]) [0, 1, 2, 3, 4] rfl ?_
          exact ih (ν7) (hI.step eν7 (by rw [← ow_mk]))
      · intro i ζ hi9 hI ih
        revert hI; generalize ζ = ν2; intro hI
        have hF9 := hI.keep hi (h1.is hF)
        have hM9 : ∀ j, j < (Δ.2.1 (rI x)) → mm ν2 j = nI ((fun i => (Δ.2.2 (rI x)) (ix (Δ.2.1 (rI x)) (-(i : Int)))) j).val := fun j hj => hI.mad (h1.got j hj)
        refine gIload (pc := 59) hC dX2_own_59 0 rfl ?_
        refine gIloadN (pc := 61) hC dX2_own_61 rfl 3 rfl ?_
        refine gIcmp_ge (pc := 62) hC (tgt := 98) dX2_own_62 (by decide) (fun hc8 => absurd hc8 (nI_ge hi9 (by omega))) (fun hc8 => ?_)
        refine gAloadN (pc := 65) hC dX2_own_65 rfl 1 rfl ?_
        refine mGetArr (pc := 66) hC 3 (a := (ka L 4)) (by decide) ⟨rfl, rfl, rfl⟩ hin2 hl21 dX2_own_66 ?_
        refine gIload (pc := 69) hC dX2_own_69 0 rfl ?_
        refine gAloadN (pc := 71) hC dX2_own_71 rfl 1 rfl ?_
        refine mGetArr (pc := 72) hC 2 (a := (km L)) (by decide) ⟨rfl, rfl, rfl⟩ hin2 hl18 dX2_own_72 ?_
        refine gIload (pc := 75) hC dX2_own_75 0 rfl ?_
        refine mMadLd (pc := 77) hC (v := (nI ((fun i => (Δ.2.2 (rI x)) (ix (Δ.2.1 (rI x)) (-(i : Int)))) i).val)) i (rfl) (by omega) (hM9 _ (by omega)) dX2_own_77 ?_
        refine gAloadN (pc := 78) hC dX2_own_78 rfl 1 rfl ?_
        refine mGetArr (pc := 79) hC 0 (a := (kn L)) (by decide) ⟨rfl, rfl, rfl⟩ hin2 hl11 dX2_own_79 ?_
        refine gIloadN (pc := 82) hC dX2_own_82 rfl 2 rfl ?_
        refine mRowAld (pc := 83) hC (rI x) (rfl) (hi) dX2_own_83 ?_
        refine gIload (pc := 84) hC dX2_own_84 0 rfl ?_
        refine mNumLd (pc := 86) hC (K := (rI x)) (v := (nI ((Δ.2.2 (rI x)) i).val)) (by omega) i (rfl) (by omega) (hF9 _ (by omega)) dX2_own_86 ?_
        refine gIadd (pc := 87) hC dX2_own_87 rfl ?_
        refine gLdc (pc := 88) hC (v := 65537) dX2_own_88 (by decide +kernel) ?_
        refine gIrem (pc := 90) hC (v := (nI ((Δ.2.2 (rI x)) i + (fun i => (Δ.2.2 (rI x)) (ix (Δ.2.1 (rI x)) (-(i : Int)))) i).val)) dX2_own_90 (by decide) (by rw [fr_ac]; exact j_add ((fun i => (Δ.2.2 (rI x)) (ix (Δ.2.1 (rI x)) (-(i : Int)))) i) ((Δ.2.2 (rI x)) i) rfl rfl) ?_
        obtain ⟨ν9, eν9⟩ : ∃ ζ : mSt, ζ = mRo ν2 4 (upd (mn ν2 4) i (nI ((Δ.2.2 (rI x)) i + (fun i => (Δ.2.2 (rI x)) (ix (Δ.2.1 (rI x)) (-(i : Int)))) i).val)) := ⟨_, rfl⟩
        refine mNumSt (pc := 91) hC (K := 4) (by decide) i (rfl) (by omega) eν9 dX2_own_91 ?_
        refine gIinc (pc := 92) hC (v := (nI (i + 1))) (lv' := [(4, .int (nI (i + 1))), (0, .ref (kx L)), (1, .int (nI (rI x))), (2, .int (nI (Δ.2.1 (rI x)))), (3, .int (nI (osc (Δ.2.1 (rI x)))))]) dX2_own_92 (q := 0) rfl (nI_1 _) (by decide) rfl ?_
        refine gGoto (pc := 95) hC (tgt := 59) dX2_own_95 (by decide) ?_
        refine gLoc (lv' := [(4, .int (nI (i + 1))), (0, .ref (kx L)), (1, .int (nI (rI x))), (2, .int (nI (Δ.2.1 (rI x)))), (3, .int (nI (osc (Δ.2.1 (rI x)))))]) [0, 1, 2, 3, 4] rfl ?_
        exact ih (ν9) (hI.step eν9 rfl)
    refine gIloadN (pc := 17) hC dX2_own_17 rfl 0 rfl ?_
    refine gIconst (pc := 18) hC (v := (nI 2)) dX2_own_18 (by decide +kernel) ?_
    refine gIcmp_ne (pc := 19) hC (tgt := 28) dX2_own_19 (by decide) (fun hc10 => ?_) (fun hc10 => ?_)
    · skip
      refine gIloadN (pc := 28) hC dX2_own_28 rfl 0 rfl ?_
      refine gIconst (pc := 29) hC (v := (nI 4)) dX2_own_29 (by decide +kernel) ?_
      refine gIcmp_ne (pc := 30) hC (tgt := 37) dX2_own_30 (by decide) (fun hc11 => ?_) (fun hc11 => ?_)
      · skip
        refine gIloadN (pc := 37) hC dX2_own_37 rfl 0 rfl ?_
        refine gBipush (pc := 38) hC (v := (nI 8)) dX2_own_38 (by decide +kernel) ?_
        refine gIcmp_ne (pc := 40) hC (tgt := 49) dX2_own_40 (by decide) (fun hc12 => ?_) (fun hc12 => ?_)
        · skip
          refine gIconst (pc := 49) hC (v := (nI 4)) dX2_own_49 (by decide +kernel) ?_
          refine gStk (st' := [.int (nI (osc (Δ.2.1 (rI x))))]) (pc' := 50) (by rw [show osc (Δ.2.1 (rI x)) = 4 by unfold osc; rw [if_neg (fun q => hc10 (by rw [q])), if_neg (fun q => hc11 (by rw [q])), if_neg (fun q => hc12 (by rw [q]))]]) rfl ?_
          exact join
        · skip
          refine gSipush (pc := 43) hC (v := (nI 8160)) dX2_own_43 (by decide +kernel) ?_
          refine gGoto (pc := 46) hC (tgt := 50) dX2_own_46 (by decide) ?_
          refine gStk (st' := [.int (nI (osc (Δ.2.1 (rI x))))]) (pc' := 50) (by rw [show osc (Δ.2.1 (rI x)) = 8160 by unfold osc; rw [if_neg (fun q => hc10 (by rw [q])), if_neg (fun q => hc11 (by rw [q])), if_pos ((nI_eq (by omega) (by decide)).mp hc12)]]) rfl ?_
          exact join
      · skip
        refine gIconst (pc := 33) hC (v := (nI 2)) dX2_own_33 (by decide +kernel) ?_
        refine gGoto (pc := 34) hC (tgt := 50) dX2_own_34 (by decide) ?_
        refine gStk (st' := [.int (nI (osc (Δ.2.1 (rI x))))]) (pc' := 50) (by rw [show osc (Δ.2.1 (rI x)) = 2 by unfold osc; rw [if_neg (fun q => hc10 (by rw [q])), if_pos ((nI_eq (by omega) (by decide)).mp hc11)]]) rfl ?_
        exact join
    · skip
      refine gSipush (pc := 22) hC (v := (nI 4080)) dX2_own_22 (by decide +kernel) ?_
      refine gGoto (pc := 25) hC (tgt := 50) dX2_own_25 (by decide) ?_
      refine gStk (st' := [.int (nI (osc (Δ.2.1 (rI x))))]) (pc' := 50) (by rw [show osc (Δ.2.1 (rI x)) = 4080 by unfold osc; rw [if_pos ((nI_eq (by omega) (by decide)).mp hc10)]]) rfl ?_
      exact join
  · skip
    have nok : ¬ (okR x) := bI_n.mp hc1
    refine gIconst (pc := 8) hC (v := (nI 0)) dX2_own_8 (by decide +kernel) ?_
    exact gRetI hC hQ hr (Nat.le_of_ble_eq_true rfl) (Nat.le_of_ble_eq_true rfl) dX2_own_9 (⟨_, rfl, _, rfl, by rw [kk1_1 nok]; exact thr_f nok, Or.inr ⟨kne (kk1_1 nok) ne1, hR⟩⟩)

abbrev rmX2_period : Room := { frames := 2, cells := 0, slots := 0, locals := 43 }
set_option maxRecDepth 100000 in
set_option maxHeartbeats 4000000 in
theorem c_X2_period (l : Launch) (D : va_G) (L : mLay) (μ : mSt) (Δ : dSt) (x : Int32) (hR : mRel μ Δ) : gM l yX2_period wsX2_period rmX2_period D (mTy L) (WM L μ) [.ref (kx L), .int x] 0 0 (fun r w => mPost L Δ Δ (kk1 (okR x)) (fun b => ∃ d, b = nI d ∧ isPd (Δ.2.1 (rI x)) (Δ.2.2 (rI x)) d) r w) := by
  refine gM.of (cc := cX2_period) (maxL := 7) (ret := (some .int)) (own := RX2) (by decide) rfl rfl (Nat.le_of_ble_eq_true rfl) rfl ?_
  intro p e s m args below meth c A Q hC hr hnm hQ
  have hin2 : ∀ w ∈ u_ws RX2 TX2 6, w ∈ wsX2_period := by decide +kernel
  have hl11 : Cond.fieldLink RX2 11 "RootrowsModel" "numbers" "[[I" ∈ wsX2_period := by decide +kernel
  have hl14 : Cond.fieldLink RX2 14 "RootrowsModel" "lengths" "[I" ∈ wsX2_period := by decide +kernel
  refine gAloadN (pc := 0) hC dX2_period_0 rfl 0 rfl ?_
  refine gIloadN (pc := 1) hC dX2_period_1 rfl 1 rfl ?_
  refine gV (pc := 2) (rest := []) (ci := 2) (q0 := 0) hC (c_X2_lacks l D L μ x) rfl rfl (cwV 1 hC.2.2.2.2.1 gX2_period_X2_lacks rfl rfl rfl (by decide +kernel) ⟨Nat.le_of_ble_eq_true rfl, Nat.le_of_ble_eq_true rfl⟩) rfl rfl (Nat.le_of_ble_eq_true rfl) dX2_period_2 ⟨Nat.le_of_ble_eq_true rfl, Nat.le_of_ble_eq_true rfl⟩ (fun v w1 hp => ?_)
  obtain ⟨rfl, rfl⟩ := hp
  refine gStk (st' := [.int (bI (¬ (okR x)))]) (pc' := 5) rfl rfl ?_
  refine gIf_eq (pc := 5) hC (tgt := 10) dX2_period_5 (by decide) (fun hc1 => ?_) (fun hc1 => ?_)
  · skip
    have ok : okR x := nn (bI_0.mp hc1)
    obtain ⟨ν2, eν2, hRν2, htν2⟩ : ∃ ζ : mSt, ζ = (mTh μ (if okR x then nI 0 else nI 1)) ∧ mRel ζ Δ ∧ mt ζ = nI (kk1 (okR x)) := ⟨_, rfl, hR, (by rw [kk1_0 ok]; exact thr_t ok)⟩
    refine gWs (ws' := WM L ν2) (by first | (rw [eν2]; done) | (rw [eν2]; rfl)) ?_
    obtain ⟨hi, ei⟩ := ok.get
    have hl_ := hRν2.okl hi
    have hle := hRν2.len hi
    have hF := hRν2.is hi
    have hz := hRν2.zer hi
    have hN := hl_.N
    have hL := hN.le
    have hp := hN.pos
    have hx3 : Value.int x = Value.int (nI (rI x)) := congrArg Value.int ei
    refine gLocE (lv' := [(0, .ref (kx L)), (1, .int (nI (rI x)))]) (by first | (rw [← hx3]; done) | (rw [← hx3]; rfl)) ?_
    obtain ⟨q, hq, eq⟩ := hl_.pw
    refine gAloadN (pc := 10) hC dX2_period_10 rfl 0 rfl ?_
    refine mGetArr (pc := 11) hC 1 (a := (kl L)) (by decide) ⟨rfl, rfl, rfl⟩ hin2 hl14 dX2_period_11 ?_
    refine gIloadN (pc := 14) hC dX2_period_14 rfl 1 rfl ?_
    refine mLenLd (pc := 15) hC (v := (nI (Δ.2.1 (rI x)))) (rI x) (rfl) (hi) (hle) dX2_period_15 ?_
    refine gIstoreN (pc := 16) hC (lv' := [(2, .int (nI (Δ.2.1 (rI x)))), (0, .ref (kx L)), (1, .int (nI (rI x)))]) dX2_period_16 rfl (by decide) rfl ?_
    refine gIloadN (pc := 17) hC dX2_period_17 rfl 0 rfl ?_
    refine gIstoreN (pc := 18) hC (lv' := [(3, .int (nI (Δ.2.1 (rI x)))), (2, .int (nI (Δ.2.1 (rI x)))), (0, .ref (kx L)), (1, .int (nI (rI x)))]) dX2_period_18 rfl (by decide) rfl ?_
    refine gIloadN (pc := 19) hC dX2_period_19 rfl 1 rfl ?_
    refine gIconst (pc := 20) hC (v := (nI 2)) dX2_period_20 (by decide +kernel) ?_
    refine gIdiv (pc := 21) hC (v := (nI ((Δ.2.1 (rI x)) / 2 ^ (0 + 1)))) dX2_period_21 (by decide) (pk_div (by omega) (by decide) (by decide)) ?_
    refine gIstore (pc := 22) hC (lv' := [(4, .int (nI ((Δ.2.1 (rI x)) / 2 ^ (0 + 1)))), (3, .int (nI (Δ.2.1 (rI x)))), (2, .int (nI (Δ.2.1 (rI x)))), (0, .ref (kx L)), (1, .int (nI (rI x)))]) dX2_period_22 (by decide) rfl ?_
    refine gLoc (lv' := [(4, .int (nI ((Δ.2.1 (rI x)) / 2 ^ (0 + 1)))), (3, .int (nI (Δ.2.1 (rI x)))), (2, .int (nI (Δ.2.1 (rI x)))), (0, .ref (kx L)), (1, .int (nI (rI x)))]) [0, 1, 2, 3, 4] rfl ?_
    refine loopUp (S := Int32) (fun i ζ => gG p l e rmX2_period s m args below meth c D A 7 0 0 Q (WM L ν2) 24 [(4, .int (nI ((Δ.2.1 (rI x)) / 2 ^ (i + 1)))), (3, .int ζ), (2, .int (nI (Δ.2.1 (rI x)))), (0, .ref (kx L)), (1, .int (nI (rI x)))] []) (fun i ζ => ∃ v, ζ = nI v ∧ isPq (Δ.2.1 (rI x)) (Δ.2.2 (rI x)) q (q - i) v) q ?_ ?_ 0 ((nI (Δ.2.1 (rI x)))) (by omega) (⟨(Δ.2.1 (rI x)), rfl, isPq.zero _ _ _⟩)
    · intro ζ hI
      revert hI; generalize ζ = c1; intro hI
      refine gIload (pc := 24) hC dX2_period_24 0 rfl ?_
      rw [pq_top eq]
      refine gIf_le (pc := 26) hC (tgt := 106) dX2_period_26 (by decide) (fun hc4 => ?_) (fun hc4 => absurd (Int32.le_refl _) hc4)
      refine gIloadN (pc := 106) hC dX2_period_106 rfl 1 rfl ?_
      obtain ⟨v, ev, hv⟩ := hI
      rw [Nat.sub_self] at hv
      exact gRetI hC hQ hr (Nat.le_of_ble_eq_true rfl) (Nat.le_of_ble_eq_true rfl) dX2_period_107 (⟨_, rfl, _, rfl, htν2, Or.inl ⟨(kk1_0 ok), ⟨v, ev, hv.done eq⟩, hRν2⟩⟩)
    · intro i ζ hi9 hI ih
      revert hI; generalize ζ = c1; intro hI
      obtain ⟨t, eqt, ed⟩ := pq_div eq hi9
      obtain ⟨v, ev, hv⟩ := hI
      have ht2 : 2 ^ t < (Δ.2.1 (rI x)) := by rw [eq]; exact Nat.pow_lt_pow_right (by decide) (by omega)
      have ht0 := Nat.two_pow_pos t
      refine gIload (pc := 24) hC dX2_period_24 0 rfl ?_
      refine gIf_le (pc := 26) hC (tgt := 106) dX2_period_26 (by decide) (fun hc5 => absurd hc5 (nI_nle (by rw [ed]; exact ht0) (by rw [ed]; omega))) (fun hc5 => ?_)
      refine gIconst (pc := 29) hC (v := (nI 1)) dX2_period_29 (by decide +kernel) ?_
      refine gIstore (pc := 30) hC (lv' := [(5, .int (nI 1)), (4, .int (nI ((Δ.2.1 (rI x)) / 2 ^ (i + 1)))), (3, .int c1), (2, .int (nI (Δ.2.1 (rI x)))), (0, .ref (kx L)), (1, .int (nI (rI x)))]) dX2_period_30 (by decide) rfl ?_
      refine gIconst (pc := 32) hC (v := (nI 0)) dX2_period_32 (by decide +kernel) ?_
      refine gIstore (pc := 33) hC (lv' := [(6, .int (nI 0)), (5, .int (nI 1)), (4, .int (nI ((Δ.2.1 (rI x)) / 2 ^ (i + 1)))), (3, .int c1), (2, .int (nI (Δ.2.1 (rI x)))), (0, .ref (kx L)), (1, .int (nI (rI x)))]) dX2_period_33 (by decide) rfl ?_
      refine gLoc (lv' := [(6, .int (nI 0)), (5, .int (nI 1)), (4, .int (nI ((Δ.2.1 (rI x)) / 2 ^ (i + 1)))), (3, .int c1), (2, .int (nI (Δ.2.1 (rI x)))), (0, .ref (kx L)), (1, .int (nI (rI x)))]) [0, 1, 2, 3, 4, 5, 6] rfl ?_
      refine loopUp (S := Int32) (fun j ζ => gG p l e rmX2_period s m args below meth c D A 7 0 0 Q (WM L ν2) 35 [(6, .int (nI j)), (5, .int ζ), (4, .int (nI ((Δ.2.1 (rI x)) / 2 ^ (i + 1)))), (3, .int c1), (2, .int (nI (Δ.2.1 (rI x)))), (0, .ref (kx L)), (1, .int (nI (rI x)))] []) (fun j ζ => ζ = bI (∀ r9, r9 < j → (Δ.2.2 (rI x)) r9 = (Δ.2.2 (rI x)) ((r9 + ((Δ.2.1 (rI x)) / 2 ^ (i + 1))) % (Δ.2.1 (rI x))))) (Δ.2.1 (rI x)) ?_ ?_ 0 ((nI 1)) (by omega) ((bI_t (fun j hj => absurd hj (Nat.not_lt_zero j))).symm)
      · intro ζ hJ
        revert hJ; generalize ζ = c2; intro hJ
        refine gIload (pc := 35) hC dX2_period_35 0 rfl ?_
        refine gIloadN (pc := 37) hC dX2_period_37 rfl 4 rfl ?_
        refine gIcmp_ge (pc := 38) hC (tgt := 85) dX2_period_38 (by decide) (fun hc6 => ?_) (fun hc6 => absurd (nI_le (Nat.le_refl _) (by omega)) hc6)
        refine gIload (pc := 85) hC dX2_period_85 1 rfl ?_
        refine gIf_eq (pc := 87) hC (tgt := 95) dX2_period_87 (by decide) (fun hc7 => ?_) (fun hc7 => ?_)
        · skip
          rw [hJ] at hc7
          have hno : ¬ agn (Δ.2.1 (rI x)) (Δ.2.2 (rI x)) (2 ^ t) := fun w => bI_0.mp hc7 (by rw [ed]; exact (agn_mod hp).mpr w)
          refine gIloadN (pc := 95) hC dX2_period_95 rfl 3 rfl ?_
          refine gIstoreN (pc := 96) hC (lv' := [(3, .int c1), (6, .int (nI (Δ.2.1 (rI x)))), (5, .int c2), (4, .int (nI ((Δ.2.1 (rI x)) / 2 ^ (i + 1)))), (2, .int (nI (Δ.2.1 (rI x)))), (0, .ref (kx L)), (1, .int (nI (rI x)))]) dX2_period_96 rfl (by decide) rfl ?_
          refine gIload (pc := 97) hC dX2_period_97 3 rfl ?_
          refine gIconst (pc := 99) hC (v := (nI 2)) dX2_period_99 (by decide +kernel) ?_
          refine gIdiv (pc := 100) hC (v := (nI ((Δ.2.1 (rI x)) / 2 ^ (i + 1 + 1)))) dX2_period_100 (by decide) (by rw [← pq_half]; exact pk_div (by omega) (by decide) (by decide)) ?_
          refine gIstore (pc := 101) hC (lv' := [(4, .int (nI ((Δ.2.1 (rI x)) / 2 ^ (i + 1 + 1)))), (3, .int c1), (6, .int (nI (Δ.2.1 (rI x)))), (5, .int c2), (2, .int (nI (Δ.2.1 (rI x)))), (0, .ref (kx L)), (1, .int (nI (rI x)))]) dX2_period_101 (by decide) rfl ?_
          refine gGoto (pc := 103) hC (tgt := 24) dX2_period_103 (by decide) ?_
          refine gLoc (lv' := [(4, .int (nI ((Δ.2.1 (rI x)) / 2 ^ ((i + 1) + 1)))), (3, .int c1), (2, .int (nI (Δ.2.1 (rI x)))), (0, .ref (kx L)), (1, .int (nI (rI x)))]) [0, 1, 4, 5, 6] rfl ?_
          exact ih (c1) (⟨v, ev, by rw [show q - (i + 1) = t by omega]; rw [show q - i = t + 1 by omega] at hv; exact hv.no hno⟩)
        · skip
          rw [hJ] at hc7
          have hyes : agn (Δ.2.1 (rI x)) (Δ.2.2 (rI x)) (2 ^ t) := (agn_mod hp).mp (by have w := bI_n.mp hc7; rw [ed] at w; exact w)
          refine gIload (pc := 90) hC dX2_period_90 2 rfl ?_
          refine gGoto (pc := 92) hC (tgt := 96) dX2_period_92 (by decide) ?_
          refine gIstoreN (pc := 96) hC (lv' := [(3, .int (nI ((Δ.2.1 (rI x)) / 2 ^ (i + 1)))), (6, .int (nI (Δ.2.1 (rI x)))), (5, .int c2), (4, .int (nI ((Δ.2.1 (rI x)) / 2 ^ (i + 1)))), (2, .int (nI (Δ.2.1 (rI x)))), (0, .ref (kx L)), (1, .int (nI (rI x)))]) dX2_period_96 rfl (by decide) rfl ?_
          refine gIload (pc := 97) hC dX2_period_97 3 rfl ?_
          refine gIconst (pc := 99) hC (v := (nI 2)) dX2_period_99 (by decide +kernel) ?_
          refine gIdiv (pc := 100) hC (v := (nI ((Δ.2.1 (rI x)) / 2 ^ (i + 1 + 1)))) dX2_period_100 (by decide) (by rw [← pq_half]; exact pk_div (by omega) (by decide) (by decide)) ?_
          refine gIstore (pc := 101) hC (lv' := [(4, .int (nI ((Δ.2.1 (rI x)) / 2 ^ (i + 1 + 1)))), (3, .int (nI ((Δ.2.1 (rI x)) / 2 ^ (i + 1)))), (6, .int (nI (Δ.2.1 (rI x)))), (5, .int c2), (2, .int (nI (Δ.2.1 (rI x)))), (0, .ref (kx L)), (1, .int (nI (rI x)))]) dX2_period_101 (by decide) rfl ?_
          refine gGoto (pc := 103) hC (tgt := 24) dX2_period_103 (by decide) ?_
          refine gLoc (lv' := [(4, .int (nI ((Δ.2.1 (rI x)) / 2 ^ ((i + 1) + 1)))), (3, .int (nI ((Δ.2.1 (rI x)) / 2 ^ (i + 1)))), (2, .int (nI (Δ.2.1 (rI x)))), (0, .ref (kx L)), (1, .int (nI (rI x)))]) [0, 1, 4, 5, 6] rfl ?_
          exact ih ((nI ((Δ.2.1 (rI x)) / 2 ^ (i + 1)))) (⟨2 ^ t, by rw [ed], by rw [show q - (i + 1) = t by omega]; exact isPq.yes (by omega) hyes⟩)
      · intro j ζ hj hJ jh
        revert hJ; generalize ζ = c2; intro hJ
        refine gIload (pc := 35) hC dX2_period_35 0 rfl ?_
        refine gIloadN (pc := 37) hC dX2_period_37 rfl 4 rfl ?_
        refine gIcmp_ge (pc := 38) hC (tgt := 85) dX2_period_38 (by decide) (fun hc8 => absurd hc8 (nI_ge hj (by omega))) (fun hc8 => ?_)
        refine gIload (pc := 41) hC dX2_period_41 1 rfl ?_
        refine gIf_eq (pc := 43) hC (tgt := 76) dX2_period_43 (by decide) (fun hc9 => ?_) (fun hc9 => ?_)
        · skip
          rw [hJ] at hc9
          refine gIconst (pc := 76) hC (v := (nI 0)) dX2_period_76 (by decide +kernel) ?_
          refine gIstore (pc := 77) hC (lv' := [(5, .int (nI 0)), (6, .int (nI j)), (4, .int (nI ((Δ.2.1 (rI x)) / 2 ^ (i + 1)))), (3, .int c1), (2, .int (nI (Δ.2.1 (rI x)))), (0, .ref (kx L)), (1, .int (nI (rI x)))]) dX2_period_77 (by decide) rfl ?_
          refine gIinc (pc := 79) hC (v := (nI (j + 1))) (lv' := [(6, .int (nI (j + 1))), (5, .int (nI 0)), (4, .int (nI ((Δ.2.1 (rI x)) / 2 ^ (i + 1)))), (3, .int c1), (2, .int (nI (Δ.2.1 (rI x)))), (0, .ref (kx L)), (1, .int (nI (rI x)))]) dX2_period_79 (q := 1) rfl (nI_1 _) (by decide) rfl ?_
          refine gGoto (pc := 82) hC (tgt := 35) dX2_period_82 (by decide) ?_
          refine gLoc (lv' := [(6, .int (nI (j + 1))), (5, .int (nI 0)), (4, .int (nI ((Δ.2.1 (rI x)) / 2 ^ (i + 1)))), (3, .int c1), (2, .int (nI (Δ.2.1 (rI x)))), (0, .ref (kx L)), (1, .int (nI (rI x)))]) [0, 1, 2, 3, 4, 5, 6] rfl ?_
          exact jh ((nI 0)) ((bI_f (fun w => bI_0.mp hc9 (fun r hr => w r (by omega)))).symm)
        · skip
          rw [hJ] at hc9
          refine gAloadN (pc := 46) hC dX2_period_46 rfl 5 rfl ?_
          refine mGetArr (pc := 47) hC 0 (a := (kn L)) (by decide) ⟨rfl, rfl, rfl⟩ hin2 hl11 dX2_period_47 ?_
          refine gIloadN (pc := 50) hC dX2_period_50 rfl 6 rfl ?_
          refine mRowAld (pc := 51) hC (rI x) (rfl) (hi) dX2_period_51 ?_
          refine gIload (pc := 52) hC dX2_period_52 0 rfl ?_
          refine mNumLd (pc := 54) hC (K := (rI x)) (v := (nI ((Δ.2.2 (rI x)) j).val)) (by omega) j (rfl) (by omega) (hF _ (by omega)) dX2_period_54 ?_
          refine gAloadN (pc := 55) hC dX2_period_55 rfl 5 rfl ?_
          refine mGetArr (pc := 56) hC 0 (a := (kn L)) (by decide) ⟨rfl, rfl, rfl⟩ hin2 hl11 dX2_period_56 ?_
          refine gIloadN (pc := 59) hC dX2_period_59 rfl 6 rfl ?_
          refine mRowAld (pc := 60) hC (rI x) (rfl) (hi) dX2_period_60 ?_
          refine gIload (pc := 61) hC dX2_period_61 0 rfl ?_
          refine gIload (pc := 63) hC dX2_period_63 2 rfl ?_
          refine gIadd (pc := 65) hC (v := (nI (j + ((Δ.2.1 (rI x)) / 2 ^ (i + 1))))) dX2_period_65 (nI_add _ _) ?_
          refine gIloadN (pc := 66) hC dX2_period_66 rfl 4 rfl ?_
          refine gIrem (pc := 67) hC (v := (nI ((j + ((Δ.2.1 (rI x)) / 2 ^ (i + 1))) % (Δ.2.1 (rI x))))) dX2_period_67 (nI_ne0 hp (by omega)) (pk_rem (by rw [ed]; omega) hp (by omega)) ?_
          have hm9 := Nat.mod_lt (j + ((Δ.2.1 (rI x)) / 2 ^ (i + 1))) hp
          refine mNumLd (pc := 68) hC (K := (rI x)) (v := (nI ((Δ.2.2 (rI x)) ((j + ((Δ.2.1 (rI x)) / 2 ^ (i + 1))) % (Δ.2.1 (rI x)))).val)) (by omega) ((j + ((Δ.2.1 (rI x)) / 2 ^ (i + 1))) % (Δ.2.1 (rI x))) (rfl) (by omega) (hF _ (by omega)) dX2_period_68 ?_
          refine gIcmp_ne (pc := 69) hC (tgt := 76) dX2_period_69 (by decide) (fun hc10 => ?_) (fun hc10 => ?_)
          · skip
            refine gIconst (pc := 76) hC (v := (nI 0)) dX2_period_76 (by decide +kernel) ?_
            refine gIstore (pc := 77) hC (lv' := [(5, .int (nI 0)), (6, .int (nI j)), (4, .int (nI ((Δ.2.1 (rI x)) / 2 ^ (i + 1)))), (3, .int c1), (2, .int (nI (Δ.2.1 (rI x)))), (0, .ref (kx L)), (1, .int (nI (rI x)))]) dX2_period_77 (by decide) rfl ?_
            refine gIinc (pc := 79) hC (v := (nI (j + 1))) (lv' := [(6, .int (nI (j + 1))), (5, .int (nI 0)), (4, .int (nI ((Δ.2.1 (rI x)) / 2 ^ (i + 1)))), (3, .int c1), (2, .int (nI (Δ.2.1 (rI x)))), (0, .ref (kx L)), (1, .int (nI (rI x)))]) dX2_period_79 (q := 1) rfl (nI_1 _) (by decide) rfl ?_
            refine gGoto (pc := 82) hC (tgt := 35) dX2_period_82 (by decide) ?_
            refine gLoc (lv' := [(6, .int (nI (j + 1))), (5, .int (nI 0)), (4, .int (nI ((Δ.2.1 (rI x)) / 2 ^ (i + 1)))), (3, .int c1), (2, .int (nI (Δ.2.1 (rI x)))), (0, .ref (kx L)), (1, .int (nI (rI x)))]) [0, 1, 2, 3, 4, 5, 6] rfl ?_
            exact jh ((nI 0)) ((bI_f (fun w => hc10 (val_ne.mpr (w j (Nat.lt_succ_self j))))).symm)
          · skip
            refine gIconst (pc := 72) hC (v := (nI 1)) dX2_period_72 (by decide +kernel) ?_
            refine gGoto (pc := 73) hC (tgt := 77) dX2_period_73 (by decide) ?_
            refine gIstore (pc := 77) hC (lv' := [(5, .int (nI 1)), (6, .int (nI j)), (4, .int (nI ((Δ.2.1 (rI x)) / 2 ^ (i + 1)))), (3, .int c1), (2, .int (nI (Δ.2.1 (rI x)))), (0, .ref (kx L)), (1, .int (nI (rI x)))]) dX2_period_77 (by decide) rfl ?_
            refine gIinc (pc := 79) hC (v := (nI (j + 1))) (lv' := [(6, .int (nI (j + 1))), (5, .int (nI 1)), (4, .int (nI ((Δ.2.1 (rI x)) / 2 ^ (i + 1)))), (3, .int c1), (2, .int (nI (Δ.2.1 (rI x)))), (0, .ref (kx L)), (1, .int (nI (rI x)))]) dX2_period_79 (q := 1) rfl (nI_1 _) (by decide) rfl ?_
            refine gGoto (pc := 82) hC (tgt := 35) dX2_period_82 (by decide) ?_
            refine gLoc (lv' := [(6, .int (nI (j + 1))), (5, .int (nI 1)), (4, .int (nI ((Δ.2.1 (rI x)) / 2 ^ (i + 1)))), (3, .int c1), (2, .int (nI (Δ.2.1 (rI x)))), (0, .ref (kx L)), (1, .int (nI (rI x)))]) [0, 1, 2, 3, 4, 5, 6] rfl ?_
            exact jh ((nI 1)) ((bI_t (lt_s (bI_n.mp hc9) (val_ne.mp hc10))).symm)
  · skip
    have nok : ¬ (okR x) := bI_n.mp hc1
    refine gIconst (pc := 8) hC (v := (nI 0)) dX2_period_8 (by decide +kernel) ?_
    exact gRetI hC hQ hr (Nat.le_of_ble_eq_true rfl) (Nat.le_of_ble_eq_true rfl) dX2_period_9 (⟨_, rfl, _, rfl, by rw [kk1_1 nok]; exact thr_f nok, Or.inr ⟨kne (kk1_1 nok) ne1, hR⟩⟩)

abbrev rmX2_factor : Room := { frames := 4, cells := 0, slots := 0, locals := 94 }
set_option maxRecDepth 100000 in
set_option maxHeartbeats 4000000 in
theorem c_X2_factor (l : Launch) (D : va_G) (L : mLay) (μ : mSt) (Δ : dSt) (x : Int32) (hR : mRel μ Δ) : gM l yX2_factor wsX2_factor rmX2_factor D (mTy L) (WM L μ) [.ref (kx L), .int x] 0 0 (fun r w => mPost L Δ Δ (kk1 (okR x)) (fun b => ((∀ j, j < (Δ.2.1 (rI x)) → (Δ.2.2 (rI x)) j * (off (Δ.2.2 (rI x)) (ps (Δ.2.1 (rI x)) (un Δ.1 (Δ.2.1 (rI x))) 1 (Δ.2.2 (rI x))) (Δ.2.1 (rI x)) 0) = (ps (Δ.2.1 (rI x)) (un Δ.1 (Δ.2.1 (rI x))) 1 (Δ.2.2 (rI x))) j) ∧ b = nI (off (Δ.2.2 (rI x)) (ps (Δ.2.1 (rI x)) (un Δ.1 (Δ.2.1 (rI x))) 1 (Δ.2.2 (rI x))) (Δ.2.1 (rI x)) 0).val) ∨ ((¬ ∀ j, j < (Δ.2.1 (rI x)) → (Δ.2.2 (rI x)) j * (off (Δ.2.2 (rI x)) (ps (Δ.2.1 (rI x)) (un Δ.1 (Δ.2.1 (rI x))) 1 (Δ.2.2 (rI x))) (Δ.2.1 (rI x)) 0) = (ps (Δ.2.1 (rI x)) (un Δ.1 (Δ.2.1 (rI x))) 1 (Δ.2.2 (rI x))) j) ∧ b = -1)) r w) := by
  refine gM.of (cc := cX2_factor) (maxL := 5) (ret := (some .int)) (own := RX2) (by decide) rfl rfl (Nat.le_of_ble_eq_true rfl) rfl ?_
  intro p e s m args below meth c A Q hC hr hnm hQ
  have hin2 : ∀ w ∈ u_ws RX2 TX2 6, w ∈ wsX2_factor := by decide +kernel
  have hl11 : Cond.fieldLink RX2 11 "RootrowsModel" "numbers" "[[I" ∈ wsX2_factor := by decide +kernel
  have hl14 : Cond.fieldLink RX2 14 "RootrowsModel" "lengths" "[I" ∈ wsX2_factor := by decide +kernel
  have hl18 : Cond.fieldLink RX2 18 "RootrowsModel" "made" "[I" ∈ wsX2_factor := by decide +kernel
  refine gAloadN (pc := 0) hC dX2_factor_0 rfl 0 rfl ?_
  refine gIloadN (pc := 1) hC dX2_factor_1 rfl 1 rfl ?_
  refine gV (pc := 2) (rest := []) (ci := 2) (q0 := 0) hC (c_X2_lacks l D L μ x) rfl rfl (cwV 1 hC.2.2.2.2.1 gX2_factor_X2_lacks rfl rfl rfl (by decide +kernel) ⟨Nat.le_of_ble_eq_true rfl, Nat.le_of_ble_eq_true rfl⟩) rfl rfl (Nat.le_of_ble_eq_true rfl) dX2_factor_2 ⟨Nat.le_of_ble_eq_true rfl, Nat.le_of_ble_eq_true rfl⟩ (fun v w1 hp => ?_)
  obtain ⟨rfl, rfl⟩ := hp
  refine gStk (st' := [.int (bI (¬ (okR x)))]) (pc' := 5) rfl rfl ?_
  refine gIf_eq (pc := 5) hC (tgt := 10) dX2_factor_5 (by decide) (fun hc1 => ?_) (fun hc1 => ?_)
  · skip
    have ok : okR x := nn (bI_0.mp hc1)
    obtain ⟨ν2, eν2, hRν2, htν2⟩ : ∃ ζ : mSt, ζ = (mTh μ (if okR x then nI 0 else nI 1)) ∧ mRel ζ Δ ∧ mt ζ = nI (kk1 (okR x)) := ⟨_, rfl, hR, (by rw [kk1_0 ok]; exact thr_t ok)⟩
    refine gWs (ws' := WM L ν2) (by first | (rw [eν2]; done) | (rw [eν2]; rfl)) ?_
    obtain ⟨hi, ei⟩ := ok.get
    have hl_ := hRν2.okl hi
    have hle := hRν2.len hi
    have hF := hRν2.is hi
    have hz := hRν2.zer hi
    have hN := hl_.N
    have hL := hN.le
    have hp := hN.pos
    have hx3 : Value.int x = Value.int (nI (rI x)) := congrArg Value.int ei
    refine gLocE (lv' := [(0, .ref (kx L)), (1, .int (nI (rI x)))]) (by first | (rw [← hx3]; done) | (rw [← hx3]; rfl)) ?_
    refine gAloadN (pc := 10) hC dX2_factor_10 rfl 0 rfl ?_
    refine gIloadN (pc := 11) hC dX2_factor_11 rfl 1 rfl ?_
    refine gV (pc := 12) (rest := []) (ci := 2) (q0 := 0) hC (c_X2_valuesOf l D L ν2 (rI x) Δ hi hRν2) rfl rfl (cwV 1 hC.2.2.2.2.1 gX2_factor_X2_valuesOf rfl rfl rfl (by decide +kernel) ⟨Nat.le_of_ble_eq_true rfl, Nat.le_of_ble_eq_true rfl⟩) rfl rfl (Nat.le_of_ble_eq_true rfl) dX2_factor_12 ⟨Nat.le_of_ble_eq_true rfl, Nat.le_of_ble_eq_true rfl⟩ (fun v w1 hp => ?_)
    obtain ⟨rfl, ν1, rfl, h1⟩ := hp
    refine gStk (st' := []) (pc' := 15) rfl rfl ?_
    have hF9 := h1.is hF
    have hle9 := h1.len hle
    refine gIconst (pc := 15) hC (v := (nI 0)) dX2_factor_15 (by decide +kernel) ?_
    refine gIstoreN (pc := 16) hC (lv' := [(2, .int (nI 0)), (0, .ref (kx L)), (1, .int (nI (rI x)))]) dX2_factor_16 rfl (by decide) rfl ?_
    refine gAloadN (pc := 17) hC dX2_factor_17 rfl 1 rfl ?_
    refine mGetArr (pc := 18) hC 1 (a := (kl L)) (by decide) ⟨rfl, rfl, rfl⟩ hin2 hl14 dX2_factor_18 ?_
    refine gIloadN (pc := 21) hC dX2_factor_21 rfl 2 rfl ?_
    refine mLenLd (pc := 22) hC (v := (nI (Δ.2.1 (rI x)))) (rI x) (rfl) (hi) (hle9) dX2_factor_22 ?_
    refine gIconst (pc := 23) hC (v := (nI 1)) dX2_factor_23 (by decide +kernel) ?_
    refine gIsub (pc := 24) hC (v := (nI (Δ.2.1 (rI x)) - nI 1)) dX2_factor_24 (rfl) ?_
    refine gIstoreN (pc := 25) hC (lv' := [(3, .int (nI (Δ.2.1 (rI x)) - nI 1)), (2, .int (nI 0)), (0, .ref (kx L)), (1, .int (nI (rI x)))]) dX2_factor_25 rfl (by decide) rfl ?_
    refine gLoc (lv' := [(3, .int (nI (Δ.2.1 (rI x)) - nI 1)), (2, .int (nI 0)), (0, .ref (kx L)), (1, .int (nI (rI x)))]) [0, 1, 2, 3] rfl ?_
    refine loopUp (S := (Int32 × Int32)) (fun i ζ => gG p l e rmX2_factor s m args below meth c D A 5 0 0 Q (WM L ν1) 26 [(3, .int (ζ.2)), (2, .int (ζ.1)), (0, .ref (kx L)), (1, .int (nI (rI x)))] []) (fun i ζ => ζ.1 = nI (off (Δ.2.2 (rI x)) (ps (Δ.2.1 (rI x)) (un Δ.1 (Δ.2.1 (rI x))) 1 (Δ.2.2 (rI x))) i ((Δ.2.1 (rI x)) - i)).val ∧ ζ.2 = nI ((Δ.2.1 (rI x)) - i) - nI 1) (Δ.2.1 (rI x)) ?_ ?_ 0 ((nI 0), (nI (Δ.2.1 (rI x)) - nI 1)) (by omega) (⟨rfl, rfl⟩)
    · intro ζ hI
      obtain ⟨c1, c2⟩ := ζ
      try dsimp only at hI ⊢
      refine gIloadN (pc := 26) hC dX2_factor_26 rfl 0 rfl ?_
      rw [hI.2, hI.1, Nat.sub_self]
      refine gIf_lt (pc := 27) hC (tgt := 73) dX2_factor_27 (by decide) (fun hc4 => ?_) (fun hc4 => absurd (by decide) hc4)
      refine gIconst (pc := 73) hC (v := (nI 1)) dX2_factor_73 (by decide +kernel) ?_
      refine gIstoreN (pc := 74) hC (lv' := [(3, .int (nI 1)), (2, .int (nI (off (Δ.2.2 (rI x)) (ps (Δ.2.1 (rI x)) (un Δ.1 (Δ.2.1 (rI x))) 1 (Δ.2.2 (rI x))) (Δ.2.1 (rI x)) 0).val)), (0, .ref (kx L)), (1, .int (nI (rI x)))]) dX2_factor_74 rfl (by decide) rfl ?_
      refine gIconst (pc := 75) hC (v := (nI 0)) dX2_factor_75 (by decide +kernel) ?_
      refine gIstore (pc := 76) hC (lv' := [(4, .int (nI 0)), (3, .int (nI 1)), (2, .int (nI (off (Δ.2.2 (rI x)) (ps (Δ.2.1 (rI x)) (un Δ.1 (Δ.2.1 (rI x))) 1 (Δ.2.2 (rI x))) (Δ.2.1 (rI x)) 0).val)), (0, .ref (kx L)), (1, .int (nI (rI x)))]) dX2_factor_76 (by decide) rfl ?_
      refine gLoc (lv' := [(4, .int (nI 0)), (3, .int (nI 1)), (2, .int (nI (off (Δ.2.2 (rI x)) (ps (Δ.2.1 (rI x)) (un Δ.1 (Δ.2.1 (rI x))) 1 (Δ.2.2 (rI x))) (Δ.2.1 (rI x)) 0).val)), (0, .ref (kx L)), (1, .int (nI (rI x)))]) [0, 1, 2, 3, 4] rfl ?_
      refine loopUp (S := Int32) (fun j ζ => gG p l e rmX2_factor s m args below meth c D A 5 0 0 Q (WM L ν1) 78 [(4, .int (nI j)), (3, .int ζ), (2, .int (nI (off (Δ.2.2 (rI x)) (ps (Δ.2.1 (rI x)) (un Δ.1 (Δ.2.1 (rI x))) 1 (Δ.2.2 (rI x))) (Δ.2.1 (rI x)) 0).val)), (0, .ref (kx L)), (1, .int (nI (rI x)))] []) (fun j ζ => ζ = bI (∀ r9, r9 < j → (Δ.2.2 (rI x)) r9 * (off (Δ.2.2 (rI x)) (ps (Δ.2.1 (rI x)) (un Δ.1 (Δ.2.1 (rI x))) 1 (Δ.2.2 (rI x))) (Δ.2.1 (rI x)) 0) = (ps (Δ.2.1 (rI x)) (un Δ.1 (Δ.2.1 (rI x))) 1 (Δ.2.2 (rI x))) r9)) (Δ.2.1 (rI x)) ?_ ?_ 0 ((nI 1)) (by omega) ((bI_t (fun j hj => absurd hj (Nat.not_lt_zero j))).symm)
      · intro ζ hJ
        revert hJ; generalize ζ = c3; intro hJ
        refine gIload (pc := 78) hC dX2_factor_78 0 rfl ?_
        refine gAloadN (pc := 80) hC dX2_factor_80 rfl 3 rfl ?_
        refine mGetArr (pc := 81) hC 1 (a := (kl L)) (by decide) ⟨rfl, rfl, rfl⟩ hin2 hl14 dX2_factor_81 ?_
        refine gIloadN (pc := 84) hC dX2_factor_84 rfl 4 rfl ?_
        refine mLenLd (pc := 85) hC (v := (nI (Δ.2.1 (rI x)))) (rI x) (rfl) (hi) (hle9) dX2_factor_85 ?_
        refine gIcmp_ge (pc := 86) hC (tgt := 131) dX2_factor_86 (by decide) (fun hc5 => ?_) (fun hc5 => absurd (nI_le (Nat.le_refl _) (by omega)) hc5)
        refine gIloadN (pc := 131) hC dX2_factor_131 rfl 1 rfl ?_
        refine gIf_eq (pc := 132) hC (tgt := 139) dX2_factor_132 (by decide) (fun hc6 => ?_) (fun hc6 => ?_)
        · skip
          rw [hJ] at hc6
          refine gIconst (pc := 139) hC (v := (-1)) dX2_factor_139 (by decide +kernel) ?_
          exact gRetI hC hQ hr (Nat.le_of_ble_eq_true rfl) (Nat.le_of_ble_eq_true rfl) dX2_factor_140 (⟨_, rfl, _, rfl, (h1.thr.trans htν2), Or.inl ⟨(kk1_0 ok), Or.inr ⟨bI_0.mp hc6, rfl⟩, (h1.rel hRν2)⟩⟩)
        · skip
          rw [hJ] at hc6
          refine gIloadN (pc := 135) hC dX2_factor_135 rfl 2 rfl ?_
          refine gGoto (pc := 136) hC (tgt := 140) dX2_factor_136 (by decide) ?_
          exact gRetI hC hQ hr (Nat.le_of_ble_eq_true rfl) (Nat.le_of_ble_eq_true rfl) dX2_factor_140 (⟨_, rfl, _, rfl, (h1.thr.trans htν2), Or.inl ⟨(kk1_0 ok), Or.inl ⟨bI_n.mp hc6, rfl⟩, (h1.rel hRν2)⟩⟩)
      · intro j ζ hj hJ jh
        revert hJ; generalize ζ = c3; intro hJ
        refine gIload (pc := 78) hC dX2_factor_78 0 rfl ?_
        refine gAloadN (pc := 80) hC dX2_factor_80 rfl 3 rfl ?_
        refine mGetArr (pc := 81) hC 1 (a := (kl L)) (by decide) ⟨rfl, rfl, rfl⟩ hin2 hl14 dX2_factor_81 ?_
        refine gIloadN (pc := 84) hC dX2_factor_84 rfl 4 rfl ?_
        refine mLenLd (pc := 85) hC (v := (nI (Δ.2.1 (rI x)))) (rI x) (rfl) (hi) (hle9) dX2_factor_85 ?_
        refine gIcmp_ge (pc := 86) hC (tgt := 131) dX2_factor_86 (by decide) (fun hc7 => absurd hc7 (nI_ge hj (by omega))) (fun hc7 => ?_)
        refine gIloadN (pc := 89) hC dX2_factor_89 rfl 1 rfl ?_
        refine gIf_eq (pc := 90) hC (tgt := 123) dX2_factor_90 (by decide) (fun hc8 => ?_) (fun hc8 => ?_)
        · skip
          rw [hJ] at hc8
          refine gIconst (pc := 123) hC (v := (nI 0)) dX2_factor_123 (by decide +kernel) ?_
          refine gIstoreN (pc := 124) hC (lv' := [(3, .int (nI 0)), (4, .int (nI j)), (2, .int (nI (off (Δ.2.2 (rI x)) (ps (Δ.2.1 (rI x)) (un Δ.1 (Δ.2.1 (rI x))) 1 (Δ.2.2 (rI x))) (Δ.2.1 (rI x)) 0).val)), (0, .ref (kx L)), (1, .int (nI (rI x)))]) dX2_factor_124 rfl (by decide) rfl ?_
          refine gIinc (pc := 125) hC (v := (nI (j + 1))) (lv' := [(4, .int (nI (j + 1))), (3, .int (nI 0)), (2, .int (nI (off (Δ.2.2 (rI x)) (ps (Δ.2.1 (rI x)) (un Δ.1 (Δ.2.1 (rI x))) 1 (Δ.2.2 (rI x))) (Δ.2.1 (rI x)) 0).val)), (0, .ref (kx L)), (1, .int (nI (rI x)))]) dX2_factor_125 (q := 1) rfl (nI_1 _) (by decide) rfl ?_
          refine gGoto (pc := 128) hC (tgt := 78) dX2_factor_128 (by decide) ?_
          refine gLoc (lv' := [(4, .int (nI (j + 1))), (3, .int (nI 0)), (2, .int (nI (off (Δ.2.2 (rI x)) (ps (Δ.2.1 (rI x)) (un Δ.1 (Δ.2.1 (rI x))) 1 (Δ.2.2 (rI x))) (Δ.2.1 (rI x)) 0).val)), (0, .ref (kx L)), (1, .int (nI (rI x)))]) [0, 1, 2, 3, 4] rfl ?_
          exact jh ((nI 0)) ((bI_f (fun w => bI_0.mp hc8 (fun r hr => w r (by omega)))).symm)
        · skip
          rw [hJ] at hc8
          refine gAloadN (pc := 93) hC dX2_factor_93 rfl 3 rfl ?_
          refine mGetArr (pc := 94) hC 0 (a := (kn L)) (by decide) ⟨rfl, rfl, rfl⟩ hin2 hl11 dX2_factor_94 ?_
          refine gIloadN (pc := 97) hC dX2_factor_97 rfl 4 rfl ?_
          refine mRowAld (pc := 98) hC (rI x) (rfl) (hi) dX2_factor_98 ?_
          refine gIload (pc := 99) hC dX2_factor_99 0 rfl ?_
          refine mNumLd (pc := 101) hC (K := (rI x)) (v := (nI ((Δ.2.2 (rI x)) j).val)) (by omega) j (rfl) (by omega) (hF9 _ (by omega)) dX2_factor_101 ?_
          refine gI2l (pc := 102) hC (v := (lN ((Δ.2.2 (rI x)) j).val)) dX2_factor_102 (nI_l (by have := ((Δ.2.2 (rI x)) j).isLt; omega)) ?_
          refine gIloadN (pc := 103) hC dX2_factor_103 rfl 2 rfl ?_
          refine gI2l (pc := 104) hC (v := (lN (off (Δ.2.2 (rI x)) (ps (Δ.2.1 (rI x)) (un Δ.1 (Δ.2.1 (rI x))) 1 (Δ.2.2 (rI x))) (Δ.2.1 (rI x)) 0).val)) dX2_factor_104 (nI_l (by have := (off (Δ.2.2 (rI x)) (ps (Δ.2.1 (rI x)) (un Δ.1 (Δ.2.1 (rI x))) 1 (Δ.2.2 (rI x))) (Δ.2.1 (rI x)) 0).isLt; omega)) ?_
          refine gIconst (pc := 105) hC (v := (nI 0)) dX2_factor_105 (by decide +kernel) ?_
          refine gS (pc := 106) (rest := []) hC (c_X2_product l D _ _ _ _ _ ((Δ.2.2 (rI x)) j) (off (Δ.2.2 (rI x)) (ps (Δ.2.1 (rI x)) (un Δ.1 (Δ.2.1 (rI x))) 1 (Δ.2.2 (rI x))) (Δ.2.1 (rI x)) 0) 0 rfl rfl rfl) (va_cwS 3 hC.2.2.2.2.1 gX2_factor_X2_product rfl rfl rfl (by decide +kernel) ⟨Nat.le_of_ble_eq_true rfl, Nat.le_of_ble_eq_true rfl⟩) rfl rfl (Nat.le_of_ble_eq_true rfl) dX2_factor_106 ⟨Nat.le_of_ble_eq_true rfl, Nat.le_of_ble_eq_true rfl⟩ (fun v w1 hp => ?_)
          obtain ⟨rfl, rfl⟩ := hp
          refine gStk (st' := [.int (nI ((Δ.2.2 (rI x)) j * (off (Δ.2.2 (rI x)) (ps (Δ.2.1 (rI x)) (un Δ.1 (Δ.2.1 (rI x))) 1 (Δ.2.2 (rI x))) (Δ.2.1 (rI x)) 0) + 0).val)]) (pc' := 109) rfl rfl ?_
          refine gAloadN (pc := 109) hC dX2_factor_109 rfl 3 rfl ?_
          refine mGetArr (pc := 110) hC 2 (a := (km L)) (by decide) ⟨rfl, rfl, rfl⟩ hin2 hl18 dX2_factor_110 ?_
          refine gIload (pc := 113) hC dX2_factor_113 0 rfl ?_
          refine mMadLd (pc := 115) hC (v := (nI ((ps (Δ.2.1 (rI x)) (un Δ.1 (Δ.2.1 (rI x))) 1 (Δ.2.2 (rI x))) j).val)) j (rfl) (by omega) (h1.got _ (by omega)) dX2_factor_115 ?_
          refine gIcmp_ne (pc := 116) hC (tgt := 123) dX2_factor_116 (by decide) (fun hc9 => ?_) (fun hc9 => ?_)
          · skip
            refine gIconst (pc := 123) hC (v := (nI 0)) dX2_factor_123 (by decide +kernel) ?_
            refine gIstoreN (pc := 124) hC (lv' := [(3, .int (nI 0)), (4, .int (nI j)), (2, .int (nI (off (Δ.2.2 (rI x)) (ps (Δ.2.1 (rI x)) (un Δ.1 (Δ.2.1 (rI x))) 1 (Δ.2.2 (rI x))) (Δ.2.1 (rI x)) 0).val)), (0, .ref (kx L)), (1, .int (nI (rI x)))]) dX2_factor_124 rfl (by decide) rfl ?_
            refine gIinc (pc := 125) hC (v := (nI (j + 1))) (lv' := [(4, .int (nI (j + 1))), (3, .int (nI 0)), (2, .int (nI (off (Δ.2.2 (rI x)) (ps (Δ.2.1 (rI x)) (un Δ.1 (Δ.2.1 (rI x))) 1 (Δ.2.2 (rI x))) (Δ.2.1 (rI x)) 0).val)), (0, .ref (kx L)), (1, .int (nI (rI x)))]) dX2_factor_125 (q := 1) rfl (nI_1 _) (by decide) rfl ?_
            refine gGoto (pc := 128) hC (tgt := 78) dX2_factor_128 (by decide) ?_
            refine gLoc (lv' := [(4, .int (nI (j + 1))), (3, .int (nI 0)), (2, .int (nI (off (Δ.2.2 (rI x)) (ps (Δ.2.1 (rI x)) (un Δ.1 (Δ.2.1 (rI x))) 1 (Δ.2.2 (rI x))) (Δ.2.1 (rI x)) 0).val)), (0, .ref (kx L)), (1, .int (nI (rI x)))]) [0, 1, 2, 3, 4] rfl ?_
            exact jh ((nI 0)) ((bI_f (fun w => hc9 (by rw [fr_a0]; exact val_ne.mpr (w j (Nat.lt_succ_self j))))).symm)
          · skip
            refine gIconst (pc := 119) hC (v := (nI 1)) dX2_factor_119 (by decide +kernel) ?_
            refine gGoto (pc := 120) hC (tgt := 124) dX2_factor_120 (by decide) ?_
            refine gIstoreN (pc := 124) hC (lv' := [(3, .int (nI 1)), (4, .int (nI j)), (2, .int (nI (off (Δ.2.2 (rI x)) (ps (Δ.2.1 (rI x)) (un Δ.1 (Δ.2.1 (rI x))) 1 (Δ.2.2 (rI x))) (Δ.2.1 (rI x)) 0).val)), (0, .ref (kx L)), (1, .int (nI (rI x)))]) dX2_factor_124 rfl (by decide) rfl ?_
            refine gIinc (pc := 125) hC (v := (nI (j + 1))) (lv' := [(4, .int (nI (j + 1))), (3, .int (nI 1)), (2, .int (nI (off (Δ.2.2 (rI x)) (ps (Δ.2.1 (rI x)) (un Δ.1 (Δ.2.1 (rI x))) 1 (Δ.2.2 (rI x))) (Δ.2.1 (rI x)) 0).val)), (0, .ref (kx L)), (1, .int (nI (rI x)))]) dX2_factor_125 (q := 1) rfl (nI_1 _) (by decide) rfl ?_
            refine gGoto (pc := 128) hC (tgt := 78) dX2_factor_128 (by decide) ?_
            refine gLoc (lv' := [(4, .int (nI (j + 1))), (3, .int (nI 1)), (2, .int (nI (off (Δ.2.2 (rI x)) (ps (Δ.2.1 (rI x)) (un Δ.1 (Δ.2.1 (rI x))) 1 (Δ.2.2 (rI x))) (Δ.2.1 (rI x)) 0).val)), (0, .ref (kx L)), (1, .int (nI (rI x)))]) [0, 1, 2, 3, 4] rfl ?_
            exact jh ((nI 1)) ((bI_t (lt_s (bI_n.mp hc8) (by have w := val_ne.mp hc9; rw [fr_a0] at w; exact w))).symm)
    · intro i ζ hi9 hI ih
      obtain ⟨c1, c2⟩ := ζ
      try dsimp only at hI ih ⊢
      obtain ⟨j, ej⟩ : ∃ j, (Δ.2.1 (rI x)) - i = j + 1 := ⟨(Δ.2.1 (rI x)) - i - 1, by omega⟩
      have e2 : c2 = nI j := by rw [hI.2, ej]; exact nI_pred j
      have e1 : c1 = nI (off (Δ.2.2 (rI x)) (ps (Δ.2.1 (rI x)) (un Δ.1 (Δ.2.1 (rI x))) 1 (Δ.2.2 (rI x))) i (j + 1)).val := by rw [hI.1, ej]
      subst e2
      refine gIloadN (pc := 26) hC dX2_factor_26 rfl 0 rfl ?_
      refine gIf_lt (pc := 27) hC (tgt := 73) dX2_factor_27 (by decide) (fun hc10 => absurd hc10 (nI_pos (by omega))) (fun hc10 => ?_)
      refine gAloadN (pc := 30) hC dX2_factor_30 rfl 2 rfl ?_
      refine mGetArr (pc := 31) hC 0 (a := (kn L)) (by decide) ⟨rfl, rfl, rfl⟩ hin2 hl11 dX2_factor_31 ?_
      refine gIloadN (pc := 34) hC dX2_factor_34 rfl 3 rfl ?_
      refine mRowAld (pc := 35) hC (rI x) (rfl) (hi) dX2_factor_35 ?_
      refine gIloadN (pc := 36) hC dX2_factor_36 rfl 0 rfl ?_
      refine mNumLd (pc := 37) hC (K := (rI x)) (v := (nI ((Δ.2.2 (rI x)) j).val)) (by omega) j (rfl) (by omega) (hF9 _ (by omega)) dX2_factor_37 ?_
      refine gIstore (pc := 38) hC (lv' := [(4, .int (nI ((Δ.2.2 (rI x)) j).val)), (3, .int (nI j)), (2, .int c1), (0, .ref (kx L)), (1, .int (nI (rI x)))]) dX2_factor_38 (by decide) rfl ?_
      refine gIload (pc := 40) hC dX2_factor_40 0 rfl ?_
      refine gIf_ne (pc := 42) hC (tgt := 49) dX2_factor_42 (by decide) (fun hc11 => ?_) (fun hc11 => ?_)
      · skip
        refine gAloadN (pc := 49) hC dX2_factor_49 rfl 3 rfl ?_
        refine mGetArr (pc := 50) hC 2 (a := (km L)) (by decide) ⟨rfl, rfl, rfl⟩ hin2 hl18 dX2_factor_50 ?_
        refine gIloadN (pc := 53) hC dX2_factor_53 rfl 1 rfl ?_
        refine mMadLd (pc := 54) hC (v := (nI ((ps (Δ.2.1 (rI x)) (un Δ.1 (Δ.2.1 (rI x))) 1 (Δ.2.2 (rI x))) j).val)) j (rfl) (by omega) (h1.got _ (by omega)) dX2_factor_54 ?_
        refine gI2l (pc := 55) hC (v := (lN ((ps (Δ.2.1 (rI x)) (un Δ.1 (Δ.2.1 (rI x))) 1 (Δ.2.2 (rI x))) j).val)) dX2_factor_55 (nI_l (by have := ((ps (Δ.2.1 (rI x)) (un Δ.1 (Δ.2.1 (rI x))) 1 (Δ.2.2 (rI x))) j).isLt; omega)) ?_
        refine gIload (pc := 56) hC dX2_factor_56 0 rfl ?_
        refine gS (pc := 58) (rest := [.long (lN ((ps (Δ.2.1 (rI x)) (un Δ.1 (Δ.2.1 (rI x))) 1 (Δ.2.2 (rI x))) j).val)]) hC (c_X2_inverse l D _ _ _ ((Δ.2.2 (rI x)) j) rfl) (va_cwS 1 hC.2.2.2.2.1 gX2_factor_X2_inverse rfl rfl rfl (by decide +kernel) ⟨Nat.le_of_ble_eq_true rfl, Nat.le_of_ble_eq_true rfl⟩) rfl rfl (Nat.le_of_ble_eq_true rfl) dX2_factor_58 ⟨Nat.le_of_ble_eq_true rfl, Nat.le_of_ble_eq_true rfl⟩ (fun v w1 hp => ?_)
        obtain ⟨rfl, rfl⟩ := hp
        refine gStk (st' := [.int (nI (iv ((Δ.2.2 (rI x)) j)).val), .long (lN ((ps (Δ.2.1 (rI x)) (un Δ.1 (Δ.2.1 (rI x))) 1 (Δ.2.2 (rI x))) j).val)]) (pc' := 61) rfl rfl ?_
        refine gI2l (pc := 61) hC (v := (lN (iv ((Δ.2.2 (rI x)) j)).val)) dX2_factor_61 (nI_l (by have := (iv ((Δ.2.2 (rI x)) j)).isLt; omega)) ?_
        refine gIconst (pc := 62) hC (v := (nI 0)) dX2_factor_62 (by decide +kernel) ?_
        refine gS (pc := 63) (rest := []) hC (c_X2_product l D _ _ _ _ _ ((ps (Δ.2.1 (rI x)) (un Δ.1 (Δ.2.1 (rI x))) 1 (Δ.2.2 (rI x))) j) (iv ((Δ.2.2 (rI x)) j)) 0 rfl rfl rfl) (va_cwS 3 hC.2.2.2.2.1 gX2_factor_X2_product rfl rfl rfl (by decide +kernel) ⟨Nat.le_of_ble_eq_true rfl, Nat.le_of_ble_eq_true rfl⟩) rfl rfl (Nat.le_of_ble_eq_true rfl) dX2_factor_63 ⟨Nat.le_of_ble_eq_true rfl, Nat.le_of_ble_eq_true rfl⟩ (fun v w1 hp => ?_)
        obtain ⟨rfl, rfl⟩ := hp
        refine gStk (st' := [.int (nI ((ps (Δ.2.1 (rI x)) (un Δ.1 (Δ.2.1 (rI x))) 1 (Δ.2.2 (rI x))) j * iv ((Δ.2.2 (rI x)) j) + 0).val)]) (pc' := 66) rfl rfl ?_
        refine gIstoreN (pc := 66) hC (lv' := [(2, .int (nI ((ps (Δ.2.1 (rI x)) (un Δ.1 (Δ.2.1 (rI x))) 1 (Δ.2.2 (rI x))) j * iv ((Δ.2.2 (rI x)) j) + 0).val)), (4, .int (nI ((Δ.2.2 (rI x)) j).val)), (3, .int (nI j)), (0, .ref (kx L)), (1, .int (nI (rI x)))]) dX2_factor_66 rfl (by decide) rfl ?_
        refine gIinc (pc := 67) hC (v := (nI j - nI 1)) (lv' := [(3, .int (nI j - nI 1)), (2, .int (nI ((ps (Δ.2.1 (rI x)) (un Δ.1 (Δ.2.1 (rI x))) 1 (Δ.2.2 (rI x))) j * iv ((Δ.2.2 (rI x)) j) + 0).val)), (4, .int (nI ((Δ.2.2 (rI x)) j).val)), (0, .ref (kx L)), (1, .int (nI (rI x)))]) dX2_factor_67 (q := 2) rfl (by rw [Int32.sub_eq_add_neg]; exact congrArg (nI j + ·) (by decide +kernel)) (by decide) rfl ?_
        refine gGoto (pc := 70) hC (tgt := 26) dX2_factor_70 (by decide) ?_
        refine gLoc (lv' := [(3, .int (nI j - nI 1)), (2, .int (nI ((ps (Δ.2.1 (rI x)) (un Δ.1 (Δ.2.1 (rI x))) 1 (Δ.2.2 (rI x))) j * iv ((Δ.2.2 (rI x)) j) + 0).val)), (0, .ref (kx L)), (1, .int (nI (rI x)))]) [0, 1, 3, 4] rfl ?_
        exact ih ((nI ((ps (Δ.2.1 (rI x)) (un Δ.1 (Δ.2.1 (rI x))) 1 (Δ.2.2 (rI x))) j * iv ((Δ.2.2 (rI x)) j) + 0).val), (nI j - nI 1)) (by rw [show (Δ.2.1 (rI x)) - (i + 1) = j by omega, off_s, if_neg (fun q => hc11 ((val0 _).mpr q)), fr_a0]; exact ⟨rfl, rfl⟩)
      · skip
        refine gIloadN (pc := 45) hC dX2_factor_45 rfl 2 rfl ?_
        refine gGoto (pc := 46) hC (tgt := 66) dX2_factor_46 (by decide) ?_
        refine gIstoreN (pc := 66) hC (lv' := [(2, .int c1), (4, .int (nI ((Δ.2.2 (rI x)) j).val)), (3, .int (nI j)), (0, .ref (kx L)), (1, .int (nI (rI x)))]) dX2_factor_66 rfl (by decide) rfl ?_
        refine gIinc (pc := 67) hC (v := (nI j - nI 1)) (lv' := [(3, .int (nI j - nI 1)), (2, .int c1), (4, .int (nI ((Δ.2.2 (rI x)) j).val)), (0, .ref (kx L)), (1, .int (nI (rI x)))]) dX2_factor_67 (q := 2) rfl (by rw [Int32.sub_eq_add_neg]; exact congrArg (nI j + ·) (by decide +kernel)) (by decide) rfl ?_
        refine gGoto (pc := 70) hC (tgt := 26) dX2_factor_70 (by decide) ?_
        refine gLoc (lv' := [(3, .int (nI j - nI 1)), (2, .int c1), (0, .ref (kx L)), (1, .int (nI (rI x)))]) [0, 1, 3, 4] rfl ?_
        exact ih (c1, (nI j - nI 1)) (by rw [show (Δ.2.1 (rI x)) - (i + 1) = j by omega, off_s, if_pos ((val0 _).mp hc11)]; exact ⟨e1, rfl⟩)
  · skip
    have nok : ¬ (okR x) := bI_n.mp hc1
    refine gIconst (pc := 8) hC (v := (nI 0)) dX2_factor_8 (by decide +kernel) ?_
    exact gRetI hC hQ hr (Nat.le_of_ble_eq_true rfl) (Nat.le_of_ble_eq_true rfl) dX2_factor_9 (⟨_, rfl, _, rfl, by rw [kk1_1 nok]; exact thr_f nok, Or.inr ⟨kne (kk1_1 nok) ne1, hR⟩⟩)
