abbrev rmX1_mean : Room := { frames := 7, cells := 1, slots := 6, locals := 103 }
set_option maxRecDepth 100000 in
set_option maxHeartbeats 4000000 in
theorem c_X1_mean (l : Launch) (D : va_G) (L : cLay) (σ : cSt) (Δ : dSt) (x : Int32) (hR : cRel σ Δ)  : gX l yX1_mean wsX1_mean rmX1_mean D (cTy L) (WC L σ) [.ref (lx L), .int x] 1 6 (fun r w => kk1 (okR x) = 0 ∧ r = some (.double (meanV (Δ.2.1 (rI x)) (Δ.2.2 (rI x)))) ∧ ∃ σ', w = WC L σ' ∧ cRel σ' Δ) (fun E w => ∃ σ', w = WC L σ' ∧ cRel σ' Δ ∧ ((E = XI ∧ kk1 (okR x) = 1))) := by
  refine gX.of (cc := cX1_mean) (maxL := 5) (ret := (some .double)) (own := RX1) (by decide) rfl rfl (Nat.le_of_ble_eq_true rfl) rfl ?_
  intro p e s m args below meth c A Q hC hr hQ hEx hl9
  have hin0 : ∀ w ∈ u_ws RX0 TX0 2, w ∈ wsX1_mean := by decide +kernel
  have hl47 : Cond.fieldLink RX1 47 "Rootrows$Row" "size" "I" ∈ wsX1_mean := by decide +kernel
  have hl60 : Cond.fieldLink RX1 60 "Rootrows$Row" "numbers" "[I" ∈ wsX1_mean := by decide +kernel
  refine gAloadN (pc := 0) hC dX1_mean_0 rfl 0 rfl ?_
  refine gIloadN (pc := 1) hC dX1_mean_1 rfl 1 rfl ?_
  refine gVX (pc := 2) (rest := []) (ci := 1) (q0 := 0) hC hEx hl9 (c_X1_rowAt l D L σ x) rfl rfl (cwV 1 hC.2.2.2.2.1 gX1_mean_X1_rowAt rfl rfl rfl (by decide +kernel) ⟨Nat.le_of_ble_eq_true rfl, Nat.le_of_ble_eq_true rfl⟩) rfl rfl (Nat.le_of_ble_eq_true rfl) dX1_mean_2 ⟨Nat.le_of_ble_eq_true rfl, Nat.le_of_ble_eq_true rfl⟩ hQ (Nat.le_of_ble_eq_true rfl) (Nat.le_of_ble_eq_true rfl) (fun E w1 h => ⟨_, h.2.1, hR, ⟨h.1, kk1_1 h.2.2⟩⟩) (fun v w1 hp => ?_)
  obtain ⟨ok, rfl, rfl⟩ := hp
  refine gStk (st' := [.ref (la L (rI x))]) (pc' := 5) rfl rfl ?_
  obtain ⟨hi, ei⟩ := ok.get
  obtain ⟨hl_, hF⟩ := hR.2.2 (rI x) hi
  have hN := hl_.N
  have hL := hN.le
  refine gAstoreN (pc := 5) hC (lv' := [(2, .ref (la L (rI x))), (0, .ref (lx L)), (1, .int x)]) dX1_mean_5 rfl (by decide) rfl ?_
  refine gIconst (pc := 6) hC (v := (nI 0)) dX1_mean_6 (by decide +kernel) ?_
  refine gIstoreN (pc := 7) hC (lv' := [(3, .int (nI 0)), (2, .ref (la L (rI x))), (0, .ref (lx L)), (1, .int x)]) dX1_mean_7 rfl (by decide) rfl ?_
  refine gIconst (pc := 8) hC (v := (nI 0)) dX1_mean_8 (by decide +kernel) ?_
  refine gIstore (pc := 9) hC (lv' := [(4, .int (nI 0)), (3, .int (nI 0)), (2, .ref (la L (rI x))), (0, .ref (lx L)), (1, .int x)]) dX1_mean_9 (by decide) rfl ?_
  refine gLoc (lv' := [(4, .int (nI 0)), (3, .int (nI 0)), (0, .ref (lx L)), (2, .ref (la L (rI x)))]) [0, 1, 3, 2] rfl ?_
  refine loopUp (S := Int32) (fun i ζ => gG p l e rmX1_mean s m args below meth c D A 5 1 6 Q (WC L σ) 11 [(4, .int (nI i)), (3, .int ζ), (0, .ref (lx L)), (2, .ref (la L (rI x)))] []) (fun i ζ => ζ = nI (sumN i (Δ.2.2 (rI x)))) (Δ.2.1 (rI x)) ?_ ?_ 0 ((nI 0)) (by omega) (rfl)
  · intro ζ hI
    revert hI; generalize ζ = c1; intro hI
    refine gIload (pc := 11) hC dX1_mean_11 0 rfl ?_
    refine gAloadN (pc := 13) hC dX1_mean_13 rfl 3 rfl ?_
    refine cGetSize (pc := 14) hC (K := (rI x)) (v := (nI (Δ.2.1 (rI x)))) (by omega) hin0 hl47 (hF.1) dX1_mean_14 ?_
    refine gIcmp_ge (pc := 17) hC (tgt := 36) dX1_mean_17 (by decide) (fun hc1 => ?_) (fun hc1 => absurd (nI_le (Nat.le_refl _) (by omega)) hc1)
    refine gIloadN (pc := 36) hC dX1_mean_36 rfl 1 rfl ?_
    refine gI2d (pc := 37) hC dX1_mean_37 ?_
    refine gAloadN (pc := 38) hC dX1_mean_38 rfl 3 rfl ?_
    refine cGetSize (pc := 39) hC (K := (rI x)) (v := (nI (Δ.2.1 (rI x)))) (by omega) hin0 hl47 (hF.1) dX1_mean_39 ?_
    refine gI2d (pc := 42) hC dX1_mean_42 ?_
    refine gDdiv (pc := 43) hC dX1_mean_43 (by rw [hI]; exact fp_mean _ hl_) ?_
    exact gRetDX hC hQ hr (Nat.le_of_ble_eq_true rfl) (Nat.le_of_ble_eq_true rfl) dX1_mean_44 (⟨kk1_0 ok, by rw [hI]; rfl, σ, rfl, hR⟩)
  · intro i ζ hi9 hI ih
    revert hI; generalize ζ = c1; intro hI
    refine gIload (pc := 11) hC dX1_mean_11 0 rfl ?_
    refine gAloadN (pc := 13) hC dX1_mean_13 rfl 3 rfl ?_
    refine cGetSize (pc := 14) hC (K := (rI x)) (v := (nI (Δ.2.1 (rI x)))) (by omega) hin0 hl47 (hF.1) dX1_mean_14 ?_
    refine gIcmp_ge (pc := 17) hC (tgt := 36) dX1_mean_17 (by decide) (fun hc2 => absurd hc2 (nI_ge hi9 (by omega))) (fun hc2 => ?_)
    refine gIloadN (pc := 20) hC dX1_mean_20 rfl 1 rfl ?_
    refine gAloadN (pc := 21) hC dX1_mean_21 rfl 3 rfl ?_
    refine cGetNums (pc := 22) hC (K := (rI x)) (by omega) hin0 hl60 dX1_mean_22 ?_
    refine gIload (pc := 25) hC dX1_mean_25 0 rfl ?_
    refine cNumLd (pc := 27) hC (K := (rI x)) (v := (nI ((Δ.2.2 (rI x)) i).val)) (by omega) i (rfl) (by omega) (hF.2 _ (by omega)) dX1_mean_27 ?_
    refine gIadd (pc := 28) hC (v := (nI (sumN (i + 1) (Δ.2.2 (rI x))))) dX1_mean_28 (by rw [hI]; exact sumN_s _ _) ?_
    refine gIstoreN (pc := 29) hC (lv' := [(3, .int (nI (sumN (i + 1) (Δ.2.2 (rI x))))), (4, .int (nI i)), (0, .ref (lx L)), (2, .ref (la L (rI x)))]) dX1_mean_29 rfl (by decide) rfl ?_
    refine gIinc (pc := 30) hC (v := (nI (i + 1))) (lv' := [(4, .int (nI (i + 1))), (3, .int (nI (sumN (i + 1) (Δ.2.2 (rI x))))), (0, .ref (lx L)), (2, .ref (la L (rI x)))]) dX1_mean_30 (q := 1) rfl (nI_1 _) (by decide) rfl ?_
    refine gGoto (pc := 33) hC (tgt := 11) dX1_mean_33 (by decide) ?_
    refine gLoc (lv' := [(4, .int (nI (i + 1))), (3, .int (nI (sumN (i + 1) (Δ.2.2 (rI x))))), (0, .ref (lx L)), (2, .ref (la L (rI x)))]) [0, 1, 2, 3] rfl ?_
    exact ih ((nI (sumN (i + 1) (Δ.2.2 (rI x))))) (rfl)

abbrev rmX1_zeros : Room := { frames := 7, cells := 1, slots := 6, locals := 103 }
set_option maxRecDepth 100000 in
set_option maxHeartbeats 4000000 in
theorem c_X1_zeros (l : Launch) (D : va_G) (L : cLay) (σ : cSt) (Δ : dSt) (x : Int32) (hR : cRel σ Δ)  : gX l yX1_zeros wsX1_zeros rmX1_zeros D (cTy L) (WC L σ) [.ref (lx L), .int x] 1 6 (fun r w => kk1 (okR x) = 0 ∧ r = some (.float (zerosV (Δ.2.1 (rI x)) (Δ.2.2 (rI x)))) ∧ ∃ σ', w = WC L σ' ∧ cRel σ' Δ) (fun E w => ∃ σ', w = WC L σ' ∧ cRel σ' Δ ∧ ((E = XI ∧ kk1 (okR x) = 1))) := by
  refine gX.of (cc := cX1_zeros) (maxL := 3) (ret := (some .float)) (own := RX1) (by decide) rfl rfl (Nat.le_of_ble_eq_true rfl) rfl ?_
  intro p e s m args below meth c A Q hC hr hQ hEx hl9
  have hin0 : ∀ w ∈ u_ws RX0 TX0 2, w ∈ wsX1_zeros := by decide +kernel
  have hl47 : Cond.fieldLink RX1 47 "Rootrows$Row" "size" "I" ∈ wsX1_zeros := by decide +kernel
  refine gAloadN (pc := 0) hC dX1_zeros_0 rfl 0 rfl ?_
  refine gIloadN (pc := 1) hC dX1_zeros_1 rfl 1 rfl ?_
  refine gVX (pc := 2) (rest := []) (ci := 1) (q0 := 0) hC hEx hl9 (c_X1_rowAt l D L σ x) rfl rfl (cwV 1 hC.2.2.2.2.1 gX1_zeros_X1_rowAt rfl rfl rfl (by decide +kernel) ⟨Nat.le_of_ble_eq_true rfl, Nat.le_of_ble_eq_true rfl⟩) rfl rfl (Nat.le_of_ble_eq_true rfl) dX1_zeros_2 ⟨Nat.le_of_ble_eq_true rfl, Nat.le_of_ble_eq_true rfl⟩ hQ (Nat.le_of_ble_eq_true rfl) (Nat.le_of_ble_eq_true rfl) (fun E w1 h => ⟨_, h.2.1, hR, ⟨h.1, kk1_1 h.2.2⟩⟩) (fun v w1 hp => ?_)
  obtain ⟨ok, rfl, rfl⟩ := hp
  refine gStk (st' := [.ref (la L (rI x))]) (pc' := 5) rfl rfl ?_
  obtain ⟨hi, ei⟩ := ok.get
  obtain ⟨hl_, hF⟩ := hR.2.2 (rI x) hi
  have hN := hl_.N
  have hL := hN.le
  refine gAstoreN (pc := 5) hC (lv' := [(2, .ref (la L (rI x))), (0, .ref (lx L)), (1, .int x)]) dX1_zeros_5 rfl (by decide) rfl ?_
  refine gAloadN (pc := 6) hC dX1_zeros_6 rfl 0 rfl ?_
  refine gV (pc := 7) (rest := []) (ci := 0) (q0 := 2 + 2 * (rI x)) hC (c_X0_countZeros l D L σ (rI x) (Δ.2.1 (rI x)) (Δ.2.2 (rI x)) (by omega) hF hL) rfl (wc_row (by omega)) (cwV 0 hC.2.2.2.2.1 gX1_zeros_X0_countZeros rfl rfl rfl (by decide +kernel) ⟨Nat.le_of_ble_eq_true rfl, Nat.le_of_ble_eq_true rfl⟩) rfl rfl (Nat.le_of_ble_eq_true rfl) dX1_zeros_7 ⟨Nat.le_of_ble_eq_true rfl, Nat.le_of_ble_eq_true rfl⟩ (fun v w1 hp => ?_)
  obtain ⟨rfl, rfl⟩ := hp
  refine gStk (st' := [.int (nI (cz (Δ.2.2 (rI x)) (Δ.2.1 (rI x))))]) (pc' := 10) rfl rfl ?_
  refine gI2f (pc := 10) hC dX1_zeros_10 ?_
  refine gAloadN (pc := 11) hC dX1_zeros_11 rfl 0 rfl ?_
  refine cGetSize (pc := 12) hC (K := (rI x)) (v := (nI (Δ.2.1 (rI x)))) (by omega) hin0 hl47 (hF.1) dX1_zeros_12 ?_
  refine gI2f (pc := 15) hC dX1_zeros_15 ?_
  refine gFdiv (pc := 16) hC dX1_zeros_16 (fp_zeros _ hl_) ?_
  exact gRetFX hC hQ hr (Nat.le_of_ble_eq_true rfl) (Nat.le_of_ble_eq_true rfl) dX1_zeros_17 (⟨kk1_0 ok, rfl, σ, rfl, hR⟩)

abbrev rmX2_mean : Room := { frames := 2, cells := 0, slots := 0, locals := 43 }
set_option maxRecDepth 100000 in
set_option maxHeartbeats 4000000 in
theorem c_X2_mean (l : Launch) (D : va_G) (L : mLay) (μ : mSt) (Δ : dSt) (x : Int32) (hR : mRel μ Δ) : gM l yX2_mean wsX2_mean rmX2_mean D (mTy L) (WM L μ) [.ref (kx L), .int x] 0 0 (fun r w => mPostD L Δ Δ (kk1 (okR x)) (fun b => b = meanV (Δ.2.1 (rI x)) (Δ.2.2 (rI x))) r w) := by
  refine gM.of (cc := cX2_mean) (maxL := 4) (ret := (some .double)) (own := RX2) (by decide) rfl rfl (Nat.le_of_ble_eq_true rfl) rfl ?_
  intro p e s m args below meth c A Q hC hr hnm hQ
  have hin2 : ∀ w ∈ u_ws RX2 TX2 6, w ∈ wsX2_mean := by decide +kernel
  have hl11 : Cond.fieldLink RX2 11 "RootrowsModel" "numbers" "[[I" ∈ wsX2_mean := by decide +kernel
  have hl14 : Cond.fieldLink RX2 14 "RootrowsModel" "lengths" "[I" ∈ wsX2_mean := by decide +kernel
  refine gAloadN (pc := 0) hC dX2_mean_0 rfl 0 rfl ?_
  refine gIloadN (pc := 1) hC dX2_mean_1 rfl 1 rfl ?_
  refine gV (pc := 2) (rest := []) (ci := 2) (q0 := 0) hC (c_X2_lacks l D L μ x) rfl rfl (cwV 1 hC.2.2.2.2.1 gX2_mean_X2_lacks rfl rfl rfl (by decide +kernel) ⟨Nat.le_of_ble_eq_true rfl, Nat.le_of_ble_eq_true rfl⟩) rfl rfl (Nat.le_of_ble_eq_true rfl) dX2_mean_2 ⟨Nat.le_of_ble_eq_true rfl, Nat.le_of_ble_eq_true rfl⟩ (fun v w1 hp => ?_)
  obtain ⟨rfl, rfl⟩ := hp
  refine gStk (st' := [.int (bI (¬ (okR x)))]) (pc' := 5) rfl rfl ?_
  refine gIf_eq (pc := 5) hC (tgt := 10) dX2_mean_5 (by decide) (fun hc1 => ?_) (fun hc1 => ?_)
  · skip
    have ok : okR x := nn (bI_0.mp hc1)
    obtain ⟨ν2, eν2, hRν2, htν2⟩ : ∃ ζ : mSt, ζ = (mTh μ (if okR x then nI 0 else nI 1)) ∧ mRel ζ Δ ∧ mt ζ = nI (kk1 (okR x)) := ⟨_, rfl, hR, (by rw [kk1_0 ok]; exact thr_t ok)⟩
    refine gWs (ws' := WM L ν2) (by first | (rw [eν2]; done) | (rw [eν2]; rfl)) ?_
    obtain ⟨hi, ei⟩ := ok.get
    have hl_ := hRν2.okl hi
    have hle := hRν2.len hi
    have hF := hRν2.is hi
    have hz := hRν2.zer hi
    have hN := hl_.N
    have hL := hN.le
    have hp := hN.pos
    have hx3 : Value.int x = Value.int (nI (rI x)) := congrArg Value.int ei
    refine gLocE (lv' := [(0, .ref (kx L)), (1, .int (nI (rI x)))]) (by first | (rw [← hx3]; done) | (rw [← hx3]; rfl)) ?_
    refine gIconst (pc := 10) hC (v := (nI 0)) dX2_mean_10 (by decide +kernel) ?_
    refine gIstoreN (pc := 11) hC (lv' := [(2, .int (nI 0)), (0, .ref (kx L)), (1, .int (nI (rI x)))]) dX2_mean_11 rfl (by decide) rfl ?_
    refine gIconst (pc := 12) hC (v := (nI 0)) dX2_mean_12 (by decide +kernel) ?_
    refine gIstoreN (pc := 13) hC (lv' := [(3, .int (nI 0)), (2, .int (nI 0)), (0, .ref (kx L)), (1, .int (nI (rI x)))]) dX2_mean_13 rfl (by decide) rfl ?_
    refine gLoc (lv' := [(3, .int (nI 0)), (2, .int (nI 0)), (0, .ref (kx L)), (1, .int (nI (rI x)))]) [0, 1, 2, 3] rfl ?_
    refine loopUp (S := Int32) (fun i ζ => gG p l e rmX2_mean s m args below meth c D A 4 0 0 Q (WM L ν2) 14 [(3, .int (nI i)), (2, .int ζ), (0, .ref (kx L)), (1, .int (nI (rI x)))] []) (fun i ζ => ζ = nI (sumN i (Δ.2.2 (rI x)))) (Δ.2.1 (rI x)) ?_ ?_ 0 ((nI 0)) (by omega) (rfl)
    · intro ζ hI
      revert hI; generalize ζ = c1; intro hI
      refine gIloadN (pc := 14) hC dX2_mean_14 rfl 0 rfl ?_
      refine gAloadN (pc := 15) hC dX2_mean_15 rfl 2 rfl ?_
      refine mGetArr (pc := 16) hC 1 (a := (kl L)) (by decide) ⟨rfl, rfl, rfl⟩ hin2 hl14 dX2_mean_16 ?_
      refine gIloadN (pc := 19) hC dX2_mean_19 rfl 3 rfl ?_
      refine mLenLd (pc := 20) hC (v := (nI (Δ.2.1 (rI x)))) (rI x) (rfl) (hi) (hle) dX2_mean_20 ?_
      refine gIcmp_ge (pc := 21) hC (tgt := 41) dX2_mean_21 (by decide) (fun hc4 => ?_) (fun hc4 => absurd (nI_le (Nat.le_refl _) (by omega)) hc4)
      refine gIloadN (pc := 41) hC dX2_mean_41 rfl 1 rfl ?_
      refine gI2d (pc := 42) hC dX2_mean_42 ?_
      refine gAloadN (pc := 43) hC dX2_mean_43 rfl 2 rfl ?_
      refine mGetArr (pc := 44) hC 1 (a := (kl L)) (by decide) ⟨rfl, rfl, rfl⟩ hin2 hl14 dX2_mean_44 ?_
      refine gIloadN (pc := 47) hC dX2_mean_47 rfl 3 rfl ?_
      refine mLenLd (pc := 48) hC (v := (nI (Δ.2.1 (rI x)))) (rI x) (rfl) (hi) (hle) dX2_mean_48 ?_
      refine gI2d (pc := 49) hC dX2_mean_49 ?_
      refine gDdiv (pc := 50) hC dX2_mean_50 (by rw [hI]; exact fp_mean _ hl_) ?_
      exact gRetD hC hQ hr (Nat.le_of_ble_eq_true rfl) (Nat.le_of_ble_eq_true rfl) dX2_mean_51 (⟨_, rfl, _, rfl, htν2, Or.inl ⟨(kk1_0 ok), by rw [hI]; rfl, hRν2⟩⟩)
    · intro i ζ hi9 hI ih
      revert hI; generalize ζ = c1; intro hI
      refine gIloadN (pc := 14) hC dX2_mean_14 rfl 0 rfl ?_
      refine gAloadN (pc := 15) hC dX2_mean_15 rfl 2 rfl ?_
      refine mGetArr (pc := 16) hC 1 (a := (kl L)) (by decide) ⟨rfl, rfl, rfl⟩ hin2 hl14 dX2_mean_16 ?_
      refine gIloadN (pc := 19) hC dX2_mean_19 rfl 3 rfl ?_
      refine mLenLd (pc := 20) hC (v := (nI (Δ.2.1 (rI x)))) (rI x) (rfl) (hi) (hle) dX2_mean_20 ?_
      refine gIcmp_ge (pc := 21) hC (tgt := 41) dX2_mean_21 (by decide) (fun hc5 => absurd hc5 (nI_ge hi9 (by omega))) (fun hc5 => ?_)
      refine gIloadN (pc := 24) hC dX2_mean_24 rfl 1 rfl ?_
      refine gAloadN (pc := 25) hC dX2_mean_25 rfl 2 rfl ?_
      refine mGetArr (pc := 26) hC 0 (a := (kn L)) (by decide) ⟨rfl, rfl, rfl⟩ hin2 hl11 dX2_mean_26 ?_
      refine gIloadN (pc := 29) hC dX2_mean_29 rfl 3 rfl ?_
      refine mRowAld (pc := 30) hC (rI x) (rfl) (hi) dX2_mean_30 ?_
      refine gIloadN (pc := 31) hC dX2_mean_31 rfl 0 rfl ?_
      refine mNumLd (pc := 32) hC (K := (rI x)) (v := (nI ((Δ.2.2 (rI x)) i).val)) (by omega) i (rfl) (by omega) (hF _ (by omega)) dX2_mean_32 ?_
      refine gIadd (pc := 33) hC (v := (nI (sumN (i + 1) (Δ.2.2 (rI x))))) dX2_mean_33 (by rw [hI]; exact sumN_s _ _) ?_
      refine gIstoreN (pc := 34) hC (lv' := [(2, .int (nI (sumN (i + 1) (Δ.2.2 (rI x))))), (3, .int (nI i)), (0, .ref (kx L)), (1, .int (nI (rI x)))]) dX2_mean_34 rfl (by decide) rfl ?_
      refine gIinc (pc := 35) hC (v := (nI (i + 1))) (lv' := [(3, .int (nI (i + 1))), (2, .int (nI (sumN (i + 1) (Δ.2.2 (rI x))))), (0, .ref (kx L)), (1, .int (nI (rI x)))]) dX2_mean_35 (q := 1) rfl (nI_1 _) (by decide) rfl ?_
      refine gGoto (pc := 38) hC (tgt := 14) dX2_mean_38 (by decide) ?_
      refine gLoc (lv' := [(3, .int (nI (i + 1))), (2, .int (nI (sumN (i + 1) (Δ.2.2 (rI x))))), (0, .ref (kx L)), (1, .int (nI (rI x)))]) [0, 1, 2, 3] rfl ?_
      exact ih ((nI (sumN (i + 1) (Δ.2.2 (rI x))))) (rfl)
  · skip
    have nok : ¬ (okR x) := bI_n.mp hc1
    refine gDconst0 (pc := 8) hC dX2_mean_8 ?_
    exact gRetD hC hQ hr (Nat.le_of_ble_eq_true rfl) (Nat.le_of_ble_eq_true rfl) dX2_mean_9 (⟨_, rfl, _, rfl, by rw [kk1_1 nok]; exact thr_f nok, Or.inr ⟨kne (kk1_1 nok) ne1, hR⟩⟩)

abbrev rmX2_zeros : Room := { frames := 2, cells := 0, slots := 0, locals := 43 }
set_option maxRecDepth 100000 in
set_option maxHeartbeats 4000000 in
theorem c_X2_zeros (l : Launch) (D : va_G) (L : mLay) (μ : mSt) (Δ : dSt) (x : Int32) (hR : mRel μ Δ) : gM l yX2_zeros wsX2_zeros rmX2_zeros D (mTy L) (WM L μ) [.ref (kx L), .int x] 0 0 (fun r w => mPostF L Δ Δ (kk1 (okR x)) (fun b => b = zerosV (Δ.2.1 (rI x)) (Δ.2.2 (rI x))) r w) := by
  refine gM.of (cc := cX2_zeros) (maxL := 2) (ret := (some .float)) (own := RX2) (by decide) rfl rfl (Nat.le_of_ble_eq_true rfl) rfl ?_
  intro p e s m args below meth c A Q hC hr hnm hQ
  have hin2 : ∀ w ∈ u_ws RX2 TX2 6, w ∈ wsX2_zeros := by decide +kernel
  have hl14 : Cond.fieldLink RX2 14 "RootrowsModel" "lengths" "[I" ∈ wsX2_zeros := by decide +kernel
  refine gAloadN (pc := 0) hC dX2_zeros_0 rfl 0 rfl ?_
  refine gIloadN (pc := 1) hC dX2_zeros_1 rfl 1 rfl ?_
  refine gV (pc := 2) (rest := []) (ci := 2) (q0 := 0) hC (c_X2_lacks l D L μ x) rfl rfl (cwV 1 hC.2.2.2.2.1 gX2_zeros_X2_lacks rfl rfl rfl (by decide +kernel) ⟨Nat.le_of_ble_eq_true rfl, Nat.le_of_ble_eq_true rfl⟩) rfl rfl (Nat.le_of_ble_eq_true rfl) dX2_zeros_2 ⟨Nat.le_of_ble_eq_true rfl, Nat.le_of_ble_eq_true rfl⟩ (fun v w1 hp => ?_)
  obtain ⟨rfl, rfl⟩ := hp
  refine gStk (st' := [.int (bI (¬ (okR x)))]) (pc' := 5) rfl rfl ?_
  refine gIf_eq (pc := 5) hC (tgt := 12) dX2_zeros_5 (by decide) (fun hc1 => ?_) (fun hc1 => ?_)
  · skip
    have ok : okR x := nn (bI_0.mp hc1)
    obtain ⟨ν2, eν2, hRν2, htν2⟩ : ∃ ζ : mSt, ζ = (mTh μ (if okR x then nI 0 else nI 1)) ∧ mRel ζ Δ ∧ mt ζ = nI (kk1 (okR x)) := ⟨_, rfl, hR, (by rw [kk1_0 ok]; exact thr_t ok)⟩
    refine gWs (ws' := WM L ν2) (by first | (rw [eν2]; done) | (rw [eν2]; rfl)) ?_
    obtain ⟨hi, ei⟩ := ok.get
    have hl_ := hRν2.okl hi
    have hle := hRν2.len hi
    have hF := hRν2.is hi
    have hz := hRν2.zer hi
    have hN := hl_.N
    have hL := hN.le
    have hp := hN.pos
    have hx3 : Value.int x = Value.int (nI (rI x)) := congrArg Value.int ei
    refine gLocE (lv' := [(0, .ref (kx L)), (1, .int (nI (rI x)))]) (by first | (rw [← hx3]; done) | (rw [← hx3]; rfl)) ?_
    refine gAloadN (pc := 12) hC dX2_zeros_12 rfl 0 rfl ?_
    refine gIloadN (pc := 13) hC dX2_zeros_13 rfl 1 rfl ?_
    refine gV (pc := 14) (rest := []) (ci := 2) (q0 := 0) hC (c_X2_zerosOf l D L ν2 (rI x) (Δ.2.1 (rI x)) (Δ.2.2 (rI x)) hi hle hF hL) rfl rfl (cwV 1 hC.2.2.2.2.1 gX2_zeros_X2_zerosOf rfl rfl rfl (by decide +kernel) ⟨Nat.le_of_ble_eq_true rfl, Nat.le_of_ble_eq_true rfl⟩) rfl rfl (Nat.le_of_ble_eq_true rfl) dX2_zeros_14 ⟨Nat.le_of_ble_eq_true rfl, Nat.le_of_ble_eq_true rfl⟩ (fun v w1 hp => ?_)
    obtain ⟨rfl, rfl⟩ := hp
    refine gStk (st' := [.int (nI (cz (Δ.2.2 (rI x)) (Δ.2.1 (rI x))))]) (pc' := 17) rfl rfl ?_
    refine gI2f (pc := 17) hC dX2_zeros_17 ?_
    refine gAloadN (pc := 18) hC dX2_zeros_18 rfl 0 rfl ?_
    refine mGetArr (pc := 19) hC 1 (a := (kl L)) (by decide) ⟨rfl, rfl, rfl⟩ hin2 hl14 dX2_zeros_19 ?_
    refine gIloadN (pc := 22) hC dX2_zeros_22 rfl 1 rfl ?_
    refine mLenLd (pc := 23) hC (v := (nI (Δ.2.1 (rI x)))) (rI x) (rfl) (hi) (hle) dX2_zeros_23 ?_
    refine gI2f (pc := 24) hC dX2_zeros_24 ?_
    refine gFdiv (pc := 25) hC dX2_zeros_25 (fp_zeros _ hl_) ?_
    exact gRetF hC hQ hr (Nat.le_of_ble_eq_true rfl) (Nat.le_of_ble_eq_true rfl) dX2_zeros_26 (⟨_, rfl, _, rfl, htν2, Or.inl ⟨(kk1_0 ok), rfl, hRν2⟩⟩)
  · skip
    have nok : ¬ (okR x) := bI_n.mp hc1
    refine gFconst0 (pc := 8) hC dX2_zeros_8 ?_
    refine gGoto (pc := 9) hC (tgt := 26) dX2_zeros_9 (by decide) ?_
    exact gRetF hC hQ hr (Nat.le_of_ble_eq_true rfl) (Nat.le_of_ble_eq_true rfl) dX2_zeros_26 (⟨_, rfl, _, rfl, by rw [kk1_1 nok]; exact thr_f nok, Or.inr ⟨kne (kk1_1 nok) ne1, hR⟩⟩)
