abbrev rmX0_becomeShifted : Room := { frames := 2, cells := 0, slots := 0, locals := 44 }
set_option maxRecDepth 100000 in
set_option maxHeartbeats 4000000 in
theorem c_X0_becomeShifted (l : Launch) (D : va_G) (L : cLay) (σ : cSt) (k i0 n : Nat) (F : Nat → Rg) (y : Int32) (hk : k < 10) (hi0 : i0 < 10) (hne : i0 ≠ k) (hF : rowIs σ i0 n F) (hn : okN n) : gM l yX0_becomeShifted wsX0_becomeShifted rmX0_becomeShifted D (cTy L) (WC L σ) [.ref (la L k), .ref (la L i0), .int y] 0 0 (fun r w => r = none ∧ ∃ σ', w = WC L σ' ∧ cSame σ σ' k ∧ rowIs σ' k n (fun i => F (ix n ((i : Int) - y.toInt)))) := by
  refine gM.of (cc := cX0_becomeShifted) (maxL := 4) (ret := none) (own := RX0) (by decide) rfl rfl (Nat.le_of_ble_eq_true rfl) rfl ?_
  intro p e s m args below meth c A Q hC hr hnm hQ
  have hin0 : ∀ w ∈ u_ws RX0 TX0 2, w ∈ wsX0_becomeShifted := by decide +kernel
  have hl9 : Cond.fieldLink RX0 9 "Rootrows$Row" "numbers" "[I" ∈ wsX0_becomeShifted := by decide +kernel
  have hl15 : Cond.fieldLink RX0 15 "Rootrows$Row" "size" "I" ∈ wsX0_becomeShifted := by decide +kernel
  have hnl := hn.le
  refine gAloadN (pc := 0) hC dX0_becomeShifted_0 rfl 0 rfl ?_
  refine gAloadN (pc := 1) hC dX0_becomeShifted_1 rfl 1 rfl ?_
  refine cGetSize (pc := 2) hC (K := i0) (v := (nI n)) hi0 hin0 hl15 (hF.1) dX0_becomeShifted_2 ?_
  refine gV (pc := 5) (rest := []) (ci := 0) (q0 := 2 + 2 * k) hC (c_X0_clear l D L σ k hk (nI n)) rfl (wc_row hk) (cwV 1 hC.2.2.2.2.1 gX0_becomeShifted_X0_clear rfl rfl rfl (by decide +kernel) ⟨Nat.le_of_ble_eq_true rfl, Nat.le_of_ble_eq_true rfl⟩) rfl rfl (Nat.le_of_ble_eq_true rfl) dX0_becomeShifted_5 ⟨Nat.le_of_ble_eq_true rfl, Nat.le_of_ble_eq_true rfl⟩ (fun v w1 hp => ?_)
  obtain ⟨rfl, σ', rfl, h1, h2, h3⟩ := hp
  refine gStk (st' := []) (pc' := 8) rfl rfl ?_
  refine gIconst (pc := 8) hC (v := (nI 0)) dX0_becomeShifted_8 (by decide +kernel) ?_
  refine gIstoreN (pc := 9) hC (lv' := [(3, .int (nI 0)), (0, .ref (la L k)), (1, .ref (la L i0)), (2, .int y)]) dX0_becomeShifted_9 rfl (by decide) rfl ?_
  refine gLoc (lv' := [(3, .int (nI 0)), (0, .ref (la L k)), (1, .ref (la L i0)), (2, .int y)]) [0, 1, 2, 3] rfl ?_
  refine loopUp (S := cSt) (fun i ζ => gG p l e rmX0_becomeShifted s m args below meth c D A 4 0 0 Q (WC L ζ) 10 [(3, .int (nI i)), (0, .ref (la L k)), (1, .ref (la L i0)), (2, .int y)] []) (fun i ζ => fillI σ' k n (fun i => F (ix n ((i : Int) - y.toInt))) i ζ) n ?_ ?_ 0 (σ') (by omega) (⟨cSame.rf σ' k, h2, fun j hj => absurd hj (Nat.not_lt_zero j)⟩)
  · intro ζ hI
    revert hI; generalize ζ = σ1; intro hI
    refine gIloadN (pc := 10) hC dX0_becomeShifted_10 rfl 0 rfl ?_
    refine gAloadN (pc := 11) hC dX0_becomeShifted_11 rfl 1 rfl ?_
    refine cGetSize (pc := 12) hC (K := k) (v := (nI n)) hk hin0 hl15 (hI.2.1) dX0_becomeShifted_12 ?_
    refine gIcmp_ge (pc := 15) hC (tgt := 37) dX0_becomeShifted_15 (by decide) (fun hc1 => ?_) (fun hc1 => absurd (nI_le (Nat.le_refl _) (by omega)) hc1)
    exact gRetV hC hQ hr (Nat.le_of_ble_eq_true rfl) (Nat.le_of_ble_eq_true rfl) dX0_becomeShifted_37 (⟨rfl, σ1, rfl, h1.tr hI.1, hI.is.2⟩)
  · intro i ζ hi hI ih
    revert hI; generalize ζ = σ1; intro hI
    refine gIloadN (pc := 10) hC dX0_becomeShifted_10 rfl 0 rfl ?_
    refine gAloadN (pc := 11) hC dX0_becomeShifted_11 rfl 1 rfl ?_
    refine cGetSize (pc := 12) hC (K := k) (v := (nI n)) hk hin0 hl15 (hI.2.1) dX0_becomeShifted_12 ?_
    refine gIcmp_ge (pc := 15) hC (tgt := 37) dX0_becomeShifted_15 (by decide) (fun hc2 => absurd hc2 (nI_ge hi (by omega))) (fun hc2 => ?_)
    refine gAloadN (pc := 18) hC dX0_becomeShifted_18 rfl 1 rfl ?_
    refine cGetNums (pc := 19) hC (K := k) hk hin0 hl9 dX0_becomeShifted_19 ?_
    refine gIloadN (pc := 22) hC dX0_becomeShifted_22 rfl 0 rfl ?_
    refine gAloadN (pc := 23) hC dX0_becomeShifted_23 rfl 2 rfl ?_
    refine gIloadN (pc := 24) hC dX0_becomeShifted_24 rfl 0 rfl ?_
    refine gIloadN (pc := 25) hC dX0_becomeShifted_25 rfl 3 rfl ?_
    refine gIsub (pc := 26) hC dX0_becomeShifted_26 rfl ?_
    refine gV (pc := 27) (rest := [.int (nI i), .ref (lb L k)]) (ci := 0) (q0 := 2 + 2 * i0) hC (c_X0_roundAt l D L σ1 i0 n F _ ((i : Int) - y.toInt) hi0 ((hF.kept h1 hne).kept hI.1 hne) hn (hz_sub (by omega) y)) rfl (wc_row hi0) (cwV 1 hC.2.2.2.2.1 gX0_becomeShifted_X0_roundAt rfl rfl rfl (by decide +kernel) ⟨Nat.le_of_ble_eq_true rfl, Nat.le_of_ble_eq_true rfl⟩) rfl rfl (Nat.le_of_ble_eq_true rfl) dX0_becomeShifted_27 ⟨Nat.le_of_ble_eq_true rfl, Nat.le_of_ble_eq_true rfl⟩ (fun v w1 hp => ?_)
    obtain ⟨rfl, rfl⟩ := hp
    refine gStk (st' := [.int (nI (F (ix n ((i : Int) - y.toInt))).val), .int (nI i), .ref (lb L k)]) (pc' := 30) rfl rfl ?_
    obtain ⟨σ3, eσ3⟩ : ∃ ζ : cSt, ζ = cNm σ1 k (upd (σ1.2.2 k) i (nI (F (ix n ((i : Int) - y.toInt))).val)) := ⟨_, rfl⟩
    refine cNumSt (pc := 30) hC (K := k) hk i (rfl) (by omega) eσ3 dX0_becomeShifted_30 ?_
    refine gIinc (pc := 31) hC (v := (nI (i + 1))) (lv' := [(3, .int (nI (i + 1))), (0, .ref (la L k)), (1, .ref (la L i0)), (2, .int y)]) dX0_becomeShifted_31 (q := 0) rfl (nI_1 _) (by decide) rfl ?_
    refine gGoto (pc := 34) hC (tgt := 10) dX0_becomeShifted_34 (by decide) ?_
    refine gLoc (lv' := [(3, .int (nI (i + 1))), (0, .ref (la L k)), (1, .ref (la L i0)), (2, .int y)]) [0, 1, 2, 3] rfl ?_
    exact ih (σ3) (hI.step eσ3 (rfl))

abbrev rmX0_becomeTurned : Room := { frames := 2, cells := 0, slots := 0, locals := 44 }
set_option maxRecDepth 100000 in
set_option maxHeartbeats 4000000 in
theorem c_X0_becomeTurned (l : Launch) (D : va_G) (L : cLay) (σ : cSt) (k i0 n : Nat) (F : Nat → Rg) (hk : k < 10) (hi0 : i0 < 10) (hne : i0 ≠ k) (hF : rowIs σ i0 n F) (hn : okN n) : gM l yX0_becomeTurned wsX0_becomeTurned rmX0_becomeTurned D (cTy L) (WC L σ) [.ref (la L k), .ref (la L i0)] 0 0 (fun r w => r = none ∧ ∃ σ', w = WC L σ' ∧ cSame σ σ' k ∧ rowIs σ' k n (fun i => F (ix n (-(i : Int))))) := by
  refine gM.of (cc := cX0_becomeTurned) (maxL := 3) (ret := none) (own := RX0) (by decide) rfl rfl (Nat.le_of_ble_eq_true rfl) rfl ?_
  intro p e s m args below meth c A Q hC hr hnm hQ
  have hin0 : ∀ w ∈ u_ws RX0 TX0 2, w ∈ wsX0_becomeTurned := by decide +kernel
  have hl9 : Cond.fieldLink RX0 9 "Rootrows$Row" "numbers" "[I" ∈ wsX0_becomeTurned := by decide +kernel
  have hl15 : Cond.fieldLink RX0 15 "Rootrows$Row" "size" "I" ∈ wsX0_becomeTurned := by decide +kernel
  have hnl := hn.le
  refine gAloadN (pc := 0) hC dX0_becomeTurned_0 rfl 0 rfl ?_
  refine gAloadN (pc := 1) hC dX0_becomeTurned_1 rfl 1 rfl ?_
  refine cGetSize (pc := 2) hC (K := i0) (v := (nI n)) hi0 hin0 hl15 (hF.1) dX0_becomeTurned_2 ?_
  refine gV (pc := 5) (rest := []) (ci := 0) (q0 := 2 + 2 * k) hC (c_X0_clear l D L σ k hk (nI n)) rfl (wc_row hk) (cwV 1 hC.2.2.2.2.1 gX0_becomeTurned_X0_clear rfl rfl rfl (by decide +kernel) ⟨Nat.le_of_ble_eq_true rfl, Nat.le_of_ble_eq_true rfl⟩) rfl rfl (Nat.le_of_ble_eq_true rfl) dX0_becomeTurned_5 ⟨Nat.le_of_ble_eq_true rfl, Nat.le_of_ble_eq_true rfl⟩ (fun v w1 hp => ?_)
  obtain ⟨rfl, σ', rfl, h1, h2, h3⟩ := hp
  refine gStk (st' := []) (pc' := 8) rfl rfl ?_
  refine gIconst (pc := 8) hC (v := (nI 0)) dX0_becomeTurned_8 (by decide +kernel) ?_
  refine gIstoreN (pc := 9) hC (lv' := [(2, .int (nI 0)), (0, .ref (la L k)), (1, .ref (la L i0))]) dX0_becomeTurned_9 rfl (by decide) rfl ?_
  refine gLoc (lv' := [(2, .int (nI 0)), (0, .ref (la L k)), (1, .ref (la L i0))]) [0, 1, 2] rfl ?_
  refine loopUp (S := cSt) (fun i ζ => gG p l e rmX0_becomeTurned s m args below meth c D A 3 0 0 Q (WC L ζ) 10 [(2, .int (nI i)), (0, .ref (la L k)), (1, .ref (la L i0))] []) (fun i ζ => fillI σ' k n (fun i => F (ix n (-(i : Int)))) i ζ) n ?_ ?_ 0 (σ') (by omega) (⟨cSame.rf σ' k, h2, fun j hj => absurd hj (Nat.not_lt_zero j)⟩)
  · intro ζ hI
    revert hI; generalize ζ = σ1; intro hI
    refine gIloadN (pc := 10) hC dX0_becomeTurned_10 rfl 0 rfl ?_
    refine gAloadN (pc := 11) hC dX0_becomeTurned_11 rfl 1 rfl ?_
    refine cGetSize (pc := 12) hC (K := k) (v := (nI n)) hk hin0 hl15 (hI.2.1) dX0_becomeTurned_12 ?_
    refine gIcmp_ge (pc := 15) hC (tgt := 36) dX0_becomeTurned_15 (by decide) (fun hc1 => ?_) (fun hc1 => absurd (nI_le (Nat.le_refl _) (by omega)) hc1)
    exact gRetV hC hQ hr (Nat.le_of_ble_eq_true rfl) (Nat.le_of_ble_eq_true rfl) dX0_becomeTurned_36 (⟨rfl, σ1, rfl, h1.tr hI.1, hI.is.2⟩)
  · intro i ζ hi hI ih
    revert hI; generalize ζ = σ1; intro hI
    refine gIloadN (pc := 10) hC dX0_becomeTurned_10 rfl 0 rfl ?_
    refine gAloadN (pc := 11) hC dX0_becomeTurned_11 rfl 1 rfl ?_
    refine cGetSize (pc := 12) hC (K := k) (v := (nI n)) hk hin0 hl15 (hI.2.1) dX0_becomeTurned_12 ?_
    refine gIcmp_ge (pc := 15) hC (tgt := 36) dX0_becomeTurned_15 (by decide) (fun hc2 => absurd hc2 (nI_ge hi (by omega))) (fun hc2 => ?_)
    refine gAloadN (pc := 18) hC dX0_becomeTurned_18 rfl 1 rfl ?_
    refine cGetNums (pc := 19) hC (K := k) hk hin0 hl9 dX0_becomeTurned_19 ?_
    refine gIloadN (pc := 22) hC dX0_becomeTurned_22 rfl 0 rfl ?_
    refine gAloadN (pc := 23) hC dX0_becomeTurned_23 rfl 2 rfl ?_
    refine gIloadN (pc := 24) hC dX0_becomeTurned_24 rfl 0 rfl ?_
    refine gIneg (pc := 25) hC dX0_becomeTurned_25 rfl ?_
    refine gV (pc := 26) (rest := [.int (nI i), .ref (lb L k)]) (ci := 0) (q0 := 2 + 2 * i0) hC (c_X0_roundAt l D L σ1 i0 n F _ (-(i : Int)) hi0 ((hF.kept h1 hne).kept hI.1 hne) hn (hz_neg (by omega))) rfl (wc_row hi0) (cwV 1 hC.2.2.2.2.1 gX0_becomeTurned_X0_roundAt rfl rfl rfl (by decide +kernel) ⟨Nat.le_of_ble_eq_true rfl, Nat.le_of_ble_eq_true rfl⟩) rfl rfl (Nat.le_of_ble_eq_true rfl) dX0_becomeTurned_26 ⟨Nat.le_of_ble_eq_true rfl, Nat.le_of_ble_eq_true rfl⟩ (fun v w1 hp => ?_)
    obtain ⟨rfl, rfl⟩ := hp
    refine gStk (st' := [.int (nI (F (ix n (-(i : Int)))).val), .int (nI i), .ref (lb L k)]) (pc' := 29) rfl rfl ?_
    obtain ⟨σ3, eσ3⟩ : ∃ ζ : cSt, ζ = cNm σ1 k (upd (σ1.2.2 k) i (nI (F (ix n (-(i : Int)))).val)) := ⟨_, rfl⟩
    refine cNumSt (pc := 29) hC (K := k) hk i (rfl) (by omega) eσ3 dX0_becomeTurned_29 ?_
    refine gIinc (pc := 30) hC (v := (nI (i + 1))) (lv' := [(2, .int (nI (i + 1))), (0, .ref (la L k)), (1, .ref (la L i0))]) dX0_becomeTurned_30 (q := 0) rfl (nI_1 _) (by decide) rfl ?_
    refine gGoto (pc := 33) hC (tgt := 10) dX0_becomeTurned_33 (by decide) ?_
    refine gLoc (lv' := [(2, .int (nI (i + 1))), (0, .ref (la L k)), (1, .ref (la L i0))]) [0, 1, 2] rfl ?_
    exact ih (σ3) (hI.step eσ3 (rfl))

abbrev rmX0_becomeRepeated : Room := { frames := 2, cells := 0, slots := 0, locals := 44 }
set_option maxRecDepth 100000 in
set_option maxHeartbeats 4000000 in
theorem c_X0_becomeRepeated (l : Launch) (D : va_G) (L : cLay) (σ : cSt) (k i0 n d : Nat) (F : Nat → Rg) (hk : k < 10) (hi0 : i0 < 10) (hne : i0 ≠ k) (hF : rowIs σ i0 n F) (hn : okN n) (hd : okN d) : gM l yX0_becomeRepeated wsX0_becomeRepeated rmX0_becomeRepeated D (cTy L) (WC L σ) [.ref (la L k), .ref (la L i0), .int (nI d)] 0 0 (fun r w => r = none ∧ ∃ σ', w = WC L σ' ∧ cSame σ σ' k ∧ rowIs σ' k n (fun i => F (i % d))) := by
  refine gM.of (cc := cX0_becomeRepeated) (maxL := 4) (ret := none) (own := RX0) (by decide) rfl rfl (Nat.le_of_ble_eq_true rfl) rfl ?_
  intro p e s m args below meth c A Q hC hr hnm hQ
  have hin0 : ∀ w ∈ u_ws RX0 TX0 2, w ∈ wsX0_becomeRepeated := by decide +kernel
  have hl9 : Cond.fieldLink RX0 9 "Rootrows$Row" "numbers" "[I" ∈ wsX0_becomeRepeated := by decide +kernel
  have hl15 : Cond.fieldLink RX0 15 "Rootrows$Row" "size" "I" ∈ wsX0_becomeRepeated := by decide +kernel
  have hnl := hn.le
  refine gAloadN (pc := 0) hC dX0_becomeRepeated_0 rfl 0 rfl ?_
  refine gAloadN (pc := 1) hC dX0_becomeRepeated_1 rfl 1 rfl ?_
  refine cGetSize (pc := 2) hC (K := i0) (v := (nI n)) hi0 hin0 hl15 (hF.1) dX0_becomeRepeated_2 ?_
  refine gV (pc := 5) (rest := []) (ci := 0) (q0 := 2 + 2 * k) hC (c_X0_clear l D L σ k hk (nI n)) rfl (wc_row hk) (cwV 1 hC.2.2.2.2.1 gX0_becomeRepeated_X0_clear rfl rfl rfl (by decide +kernel) ⟨Nat.le_of_ble_eq_true rfl, Nat.le_of_ble_eq_true rfl⟩) rfl rfl (Nat.le_of_ble_eq_true rfl) dX0_becomeRepeated_5 ⟨Nat.le_of_ble_eq_true rfl, Nat.le_of_ble_eq_true rfl⟩ (fun v w1 hp => ?_)
  obtain ⟨rfl, σ', rfl, h1, h2, h3⟩ := hp
  refine gStk (st' := []) (pc' := 8) rfl rfl ?_
  refine gIconst (pc := 8) hC (v := (nI 0)) dX0_becomeRepeated_8 (by decide +kernel) ?_
  refine gIstoreN (pc := 9) hC (lv' := [(3, .int (nI 0)), (0, .ref (la L k)), (1, .ref (la L i0)), (2, .int (nI d))]) dX0_becomeRepeated_9 rfl (by decide) rfl ?_
  refine gLoc (lv' := [(3, .int (nI 0)), (0, .ref (la L k)), (1, .ref (la L i0)), (2, .int (nI d))]) [0, 1, 2, 3] rfl ?_
  refine loopUp (S := cSt) (fun i ζ => gG p l e rmX0_becomeRepeated s m args below meth c D A 4 0 0 Q (WC L ζ) 10 [(3, .int (nI i)), (0, .ref (la L k)), (1, .ref (la L i0)), (2, .int (nI d))] []) (fun i ζ => fillI σ' k n (fun i => F (i % d)) i ζ) n ?_ ?_ 0 (σ') (by omega) (⟨cSame.rf σ' k, h2, fun j hj => absurd hj (Nat.not_lt_zero j)⟩)
  · intro ζ hI
    revert hI; generalize ζ = σ1; intro hI
    refine gIloadN (pc := 10) hC dX0_becomeRepeated_10 rfl 0 rfl ?_
    refine gAloadN (pc := 11) hC dX0_becomeRepeated_11 rfl 1 rfl ?_
    refine cGetSize (pc := 12) hC (K := k) (v := (nI n)) hk hin0 hl15 (hI.2.1) dX0_becomeRepeated_12 ?_
    refine gIcmp_ge (pc := 15) hC (tgt := 40) dX0_becomeRepeated_15 (by decide) (fun hc1 => ?_) (fun hc1 => absurd (nI_le (Nat.le_refl _) (by omega)) hc1)
    exact gRetV hC hQ hr (Nat.le_of_ble_eq_true rfl) (Nat.le_of_ble_eq_true rfl) dX0_becomeRepeated_40 (⟨rfl, σ1, rfl, h1.tr hI.1, hI.is.2⟩)
  · intro i ζ hi hI ih
    revert hI; generalize ζ = σ1; intro hI
    refine gIloadN (pc := 10) hC dX0_becomeRepeated_10 rfl 0 rfl ?_
    refine gAloadN (pc := 11) hC dX0_becomeRepeated_11 rfl 1 rfl ?_
    refine cGetSize (pc := 12) hC (K := k) (v := (nI n)) hk hin0 hl15 (hI.2.1) dX0_becomeRepeated_12 ?_
    refine gIcmp_ge (pc := 15) hC (tgt := 40) dX0_becomeRepeated_15 (by decide) (fun hc2 => absurd hc2 (nI_ge hi (by omega))) (fun hc2 => ?_)
    refine gAloadN (pc := 18) hC dX0_becomeRepeated_18 rfl 1 rfl ?_
    refine cGetNums (pc := 19) hC (K := k) hk hin0 hl9 dX0_becomeRepeated_19 ?_
    refine gIloadN (pc := 22) hC dX0_becomeRepeated_22 rfl 0 rfl ?_
    refine gAloadN (pc := 23) hC dX0_becomeRepeated_23 rfl 2 rfl ?_
    refine cGetNums (pc := 24) hC (K := i0) hi0 hin0 hl9 dX0_becomeRepeated_24 ?_
    refine gIloadN (pc := 27) hC dX0_becomeRepeated_27 rfl 0 rfl ?_
    refine gIloadN (pc := 28) hC dX0_becomeRepeated_28 rfl 3 rfl ?_
    refine gIconst (pc := 29) hC (v := (nI 1)) dX0_becomeRepeated_29 (by decide +kernel) ?_
    refine gIsub (pc := 30) hC dX0_becomeRepeated_30 rfl ?_
    refine gIand (pc := 31) hC (v := (nI (i % d))) dX0_becomeRepeated_31 (j_modN hd (by omega)) ?_
    refine cNumLd (pc := 32) hC (K := i0) (v := (nI (F (i % d)).val)) hi0 (i % d) (rfl) (Nat.lt_of_le_of_lt (Nat.mod_le _ _) (by omega)) (((hF.kept h1 hne).kept hI.1 hne).2 _ (Nat.lt_of_le_of_lt (Nat.mod_le _ _) hi)) dX0_becomeRepeated_32 ?_
    obtain ⟨σ3, eσ3⟩ : ∃ ζ : cSt, ζ = cNm σ1 k (upd (σ1.2.2 k) i (nI (F (i % d)).val)) := ⟨_, rfl⟩
    refine cNumSt (pc := 33) hC (K := k) hk i (rfl) (by omega) eσ3 dX0_becomeRepeated_33 ?_
    refine gIinc (pc := 34) hC (v := (nI (i + 1))) (lv' := [(3, .int (nI (i + 1))), (0, .ref (la L k)), (1, .ref (la L i0)), (2, .int (nI d))]) dX0_becomeRepeated_34 (q := 0) rfl (nI_1 _) (by decide) rfl ?_
    refine gGoto (pc := 37) hC (tgt := 10) dX0_becomeRepeated_37 (by decide) ?_
    refine gLoc (lv' := [(3, .int (nI (i + 1))), (0, .ref (la L k)), (1, .ref (la L i0)), (2, .int (nI d))]) [0, 1, 2, 3] rfl ?_
    exact ih (σ3) (hI.step eσ3 (rfl))

abbrev rmX0_becomeEverySecond : Room := { frames := 2, cells := 0, slots := 0, locals := 44 }
set_option maxRecDepth 100000 in
set_option maxHeartbeats 4000000 in
theorem c_X0_becomeEverySecond (l : Launch) (D : va_G) (L : cLay) (σ : cSt) (k i0 h f : Nat) (F : Nat → Rg) (hk : k < 10) (hi0 : i0 < 10) (hne : i0 ≠ k) (hF : rowIs σ i0 (2 * h) F) (hh : h ≤ 8) (hf : f < 2) : gM l yX0_becomeEverySecond wsX0_becomeEverySecond rmX0_becomeEverySecond D (cTy L) (WC L σ) [.ref (la L k), .ref (la L i0), .int (nI f)] 0 0 (fun r w => r = none ∧ ∃ σ', w = WC L σ' ∧ cSame σ σ' k ∧ rowIs σ' k h (fun i => F (2 * i + f))) := by
  refine gM.of (cc := cX0_becomeEverySecond) (maxL := 4) (ret := none) (own := RX0) (by decide) rfl rfl (Nat.le_of_ble_eq_true rfl) rfl ?_
  intro p e s m args below meth c A Q hC hr hnm hQ
  have hin0 : ∀ w ∈ u_ws RX0 TX0 2, w ∈ wsX0_becomeEverySecond := by decide +kernel
  have hl9 : Cond.fieldLink RX0 9 "Rootrows$Row" "numbers" "[I" ∈ wsX0_becomeEverySecond := by decide +kernel
  have hl15 : Cond.fieldLink RX0 15 "Rootrows$Row" "size" "I" ∈ wsX0_becomeEverySecond := by decide +kernel
  refine gAloadN (pc := 0) hC dX0_becomeEverySecond_0 rfl 0 rfl ?_
  refine gAloadN (pc := 1) hC dX0_becomeEverySecond_1 rfl 1 rfl ?_
  refine cGetSize (pc := 2) hC (K := i0) (v := (nI (2 * h))) hi0 hin0 hl15 (hF.1) dX0_becomeEverySecond_2 ?_
  refine gIconst (pc := 5) hC (v := (nI 2)) dX0_becomeEverySecond_5 (by decide +kernel) ?_
  refine gIdiv (pc := 6) hC (v := (nI h)) dX0_becomeEverySecond_6 (by decide) (by rw [pk_div (by omega) (by decide) (by decide)]; exact congrArg nI (by omega)) ?_
  refine gV (pc := 7) (rest := []) (ci := 0) (q0 := 2 + 2 * k) hC (c_X0_clear l D L σ k hk (nI h)) rfl (wc_row hk) (cwV 1 hC.2.2.2.2.1 gX0_becomeEverySecond_X0_clear rfl rfl rfl (by decide +kernel) ⟨Nat.le_of_ble_eq_true rfl, Nat.le_of_ble_eq_true rfl⟩) rfl rfl (Nat.le_of_ble_eq_true rfl) dX0_becomeEverySecond_7 ⟨Nat.le_of_ble_eq_true rfl, Nat.le_of_ble_eq_true rfl⟩ (fun v w1 hp => ?_)
  obtain ⟨rfl, σ', rfl, h1, h2, h3⟩ := hp
  refine gStk (st' := []) (pc' := 10) rfl rfl ?_
  refine gIconst (pc := 10) hC (v := (nI 0)) dX0_becomeEverySecond_10 (by decide +kernel) ?_
  refine gIstoreN (pc := 11) hC (lv' := [(3, .int (nI 0)), (0, .ref (la L k)), (1, .ref (la L i0)), (2, .int (nI f))]) dX0_becomeEverySecond_11 rfl (by decide) rfl ?_
  refine gLoc (lv' := [(3, .int (nI 0)), (0, .ref (la L k)), (1, .ref (la L i0)), (2, .int (nI f))]) [0, 1, 2, 3] rfl ?_
  refine loopUp (S := cSt) (fun i ζ => gG p l e rmX0_becomeEverySecond s m args below meth c D A 4 0 0 Q (WC L ζ) 12 [(3, .int (nI i)), (0, .ref (la L k)), (1, .ref (la L i0)), (2, .int (nI f))] []) (fun i ζ => fillI σ' k h (fun i => F (2 * i + f)) i ζ) h ?_ ?_ 0 (σ') (by omega) (⟨cSame.rf σ' k, h2, fun j hj => absurd hj (Nat.not_lt_zero j)⟩)
  · intro ζ hI
    revert hI; generalize ζ = σ1; intro hI
    refine gIloadN (pc := 12) hC dX0_becomeEverySecond_12 rfl 0 rfl ?_
    refine gAloadN (pc := 13) hC dX0_becomeEverySecond_13 rfl 1 rfl ?_
    refine cGetSize (pc := 14) hC (K := k) (v := (nI h)) hk hin0 hl15 (hI.2.1) dX0_becomeEverySecond_14 ?_
    refine gIcmp_ge (pc := 17) hC (tgt := 42) dX0_becomeEverySecond_17 (by decide) (fun hc1 => ?_) (fun hc1 => absurd (nI_le (Nat.le_refl _) (by omega)) hc1)
    exact gRetV hC hQ hr (Nat.le_of_ble_eq_true rfl) (Nat.le_of_ble_eq_true rfl) dX0_becomeEverySecond_42 (⟨rfl, σ1, rfl, h1.tr hI.1, hI.is.2⟩)
  · intro i ζ hi hI ih
    revert hI; generalize ζ = σ1; intro hI
    refine gIloadN (pc := 12) hC dX0_becomeEverySecond_12 rfl 0 rfl ?_
    refine gAloadN (pc := 13) hC dX0_becomeEverySecond_13 rfl 1 rfl ?_
    refine cGetSize (pc := 14) hC (K := k) (v := (nI h)) hk hin0 hl15 (hI.2.1) dX0_becomeEverySecond_14 ?_
    refine gIcmp_ge (pc := 17) hC (tgt := 42) dX0_becomeEverySecond_17 (by decide) (fun hc2 => absurd hc2 (nI_ge hi (by omega))) (fun hc2 => ?_)
    refine gAloadN (pc := 20) hC dX0_becomeEverySecond_20 rfl 1 rfl ?_
    refine cGetNums (pc := 21) hC (K := k) hk hin0 hl9 dX0_becomeEverySecond_21 ?_
    refine gIloadN (pc := 24) hC dX0_becomeEverySecond_24 rfl 0 rfl ?_
    refine gAloadN (pc := 25) hC dX0_becomeEverySecond_25 rfl 2 rfl ?_
    refine cGetNums (pc := 26) hC (K := i0) hi0 hin0 hl9 dX0_becomeEverySecond_26 ?_
    refine gIconst (pc := 29) hC (v := (nI 2)) dX0_becomeEverySecond_29 (by decide +kernel) ?_
    refine gIloadN (pc := 30) hC dX0_becomeEverySecond_30 rfl 0 rfl ?_
    refine gImul (pc := 31) hC (v := (nI (2 * i))) dX0_becomeEverySecond_31 (pk_mul _ _) ?_
    refine gIloadN (pc := 32) hC dX0_becomeEverySecond_32 rfl 3 rfl ?_
    refine gIadd (pc := 33) hC (v := (nI (2 * i + f))) dX0_becomeEverySecond_33 (nI_add _ _) ?_
    refine cNumLd (pc := 34) hC (K := i0) (v := (nI (F (2 * i + f)).val)) hi0 (2 * i + f) (rfl) (by omega) (((hF.kept h1 hne).kept hI.1 hne).2 _ (by omega)) dX0_becomeEverySecond_34 ?_
    obtain ⟨σ3, eσ3⟩ : ∃ ζ : cSt, ζ = cNm σ1 k (upd (σ1.2.2 k) i (nI (F (2 * i + f)).val)) := ⟨_, rfl⟩
    refine cNumSt (pc := 35) hC (K := k) hk i (rfl) (by omega) eσ3 dX0_becomeEverySecond_35 ?_
    refine gIinc (pc := 36) hC (v := (nI (i + 1))) (lv' := [(3, .int (nI (i + 1))), (0, .ref (la L k)), (1, .ref (la L i0)), (2, .int (nI f))]) dX0_becomeEverySecond_36 (q := 0) rfl (nI_1 _) (by decide) rfl ?_
    refine gGoto (pc := 39) hC (tgt := 12) dX0_becomeEverySecond_39 (by decide) ?_
    refine gLoc (lv' := [(3, .int (nI (i + 1))), (0, .ref (la L k)), (1, .ref (la L i0)), (2, .int (nI f))]) [0, 1, 2, 3] rfl ?_
    exact ih (σ3) (hI.step eσ3 (rfl))

abbrev rmX0_becomeDigits : Room := { frames := 2, cells := 0, slots := 0, locals := 44 }
set_option maxRecDepth 100000 in
set_option maxHeartbeats 4000000 in
theorem c_X0_becomeDigits (l : Launch) (D : va_G) (L : cLay) (σ : cSt) (k : Nat) (x : Int32) (hk : k < 10) : gM l yX0_becomeDigits wsX0_becomeDigits rmX0_becomeDigits D (cTy L) (WC L σ) [.ref (la L k), .int x] 0 0 (fun r w => r = none ∧ ∃ σ', w = WC L σ' ∧ cSame σ σ' k ∧ rowIs σ' k 16 (dg x)) := by
  refine gM.of (cc := cX0_becomeDigits) (maxL := 3) (ret := none) (own := RX0) (by decide) rfl rfl (Nat.le_of_ble_eq_true rfl) rfl ?_
  intro p e s m args below meth c A Q hC hr hnm hQ
  have hin0 : ∀ w ∈ u_ws RX0 TX0 2, w ∈ wsX0_becomeDigits := by decide +kernel
  have hl9 : Cond.fieldLink RX0 9 "Rootrows$Row" "numbers" "[I" ∈ wsX0_becomeDigits := by decide +kernel
  refine gAloadN (pc := 0) hC dX0_becomeDigits_0 rfl 0 rfl ?_
  refine gBipush (pc := 1) hC (v := (nI 16)) dX0_becomeDigits_1 (by decide +kernel) ?_
  refine gV (pc := 3) (rest := []) (ci := 0) (q0 := 2 + 2 * k) hC (c_X0_clear l D L σ k hk (nI 16)) rfl (wc_row hk) (cwV 1 hC.2.2.2.2.1 gX0_becomeDigits_X0_clear rfl rfl rfl (by decide +kernel) ⟨Nat.le_of_ble_eq_true rfl, Nat.le_of_ble_eq_true rfl⟩) rfl rfl (Nat.le_of_ble_eq_true rfl) dX0_becomeDigits_3 ⟨Nat.le_of_ble_eq_true rfl, Nat.le_of_ble_eq_true rfl⟩ (fun v w1 hp => ?_)
  obtain ⟨rfl, σ', rfl, h1, h2, h3⟩ := hp
  refine gStk (st' := []) (pc' := 6) rfl rfl ?_
  refine gIconst (pc := 6) hC (v := (nI 0)) dX0_becomeDigits_6 (by decide +kernel) ?_
  refine gIstoreN (pc := 7) hC (lv' := [(2, .int (nI 0)), (0, .ref (la L k)), (1, .int x)]) dX0_becomeDigits_7 rfl (by decide) rfl ?_
  refine gLoc (lv' := [(2, .int (nI 0)), (0, .ref (la L k)), (1, .int x)]) [0, 1, 2] rfl ?_
  refine loopUp (S := cSt) (fun i ζ => gG p l e rmX0_becomeDigits s m args below meth c D A 3 0 0 Q (WC L ζ) 8 [(2, .int (nI i)), (0, .ref (la L k)), (1, .int x)] []) (fun i ζ => cSame σ' ζ k ∧ ζ.2.1 k = nI 16 ∧ (∀ j, j < i → ζ.2.2 k j = nI (dg x j).val) ∧ ∀ j, 8 ≤ j → j < 16 → ζ.2.2 k j = nI 0) 8 ?_ ?_ 0 (σ') (by omega) (⟨cSame.rf σ' k, h2, fun j hj => absurd hj (Nat.not_lt_zero j), fun j _ hj => h3 j hj⟩)
  · intro ζ hI
    revert hI; generalize ζ = σ1; intro hI
    refine gIloadN (pc := 8) hC dX0_becomeDigits_8 rfl 0 rfl ?_
    refine gBipush (pc := 9) hC (v := (nI 8)) dX0_becomeDigits_9 (by decide +kernel) ?_
    refine gIcmp_ge (pc := 11) hC (tgt := 34) dX0_becomeDigits_11 (by decide) (fun hc1 => ?_) (fun hc1 => absurd (nI_le (Nat.le_refl _) (by decide)) hc1)
    exact gRetV hC hQ hr (Nat.le_of_ble_eq_true rfl) (Nat.le_of_ble_eq_true rfl) dX0_becomeDigits_34 (⟨rfl, σ1, rfl, h1.tr hI.1, hI.2.1, fun j hj => by by_cases q : j < 8; exact hI.2.2.1 j q; rw [hI.2.2.2 j (by omega) hj, dg_0 x (by omega)]; rfl⟩)
  · intro i ζ hi hI ih
    revert hI; generalize ζ = σ1; intro hI
    refine gIloadN (pc := 8) hC dX0_becomeDigits_8 rfl 0 rfl ?_
    refine gBipush (pc := 9) hC (v := (nI 8)) dX0_becomeDigits_9 (by decide +kernel) ?_
    refine gIcmp_ge (pc := 11) hC (tgt := 34) dX0_becomeDigits_11 (by decide) (fun hc2 => absurd hc2 (nI_ge hi (by decide))) (fun hc2 => ?_)
    refine gAloadN (pc := 14) hC dX0_becomeDigits_14 rfl 1 rfl ?_
    refine cGetNums (pc := 15) hC (K := k) hk hin0 hl9 dX0_becomeDigits_15 ?_
    refine gIloadN (pc := 18) hC dX0_becomeDigits_18 rfl 0 rfl ?_
    refine gIloadN (pc := 19) hC dX0_becomeDigits_19 rfl 2 rfl ?_
    refine gIconst (pc := 20) hC (v := (nI 4)) dX0_becomeDigits_20 (by decide +kernel) ?_
    refine gIloadN (pc := 21) hC dX0_becomeDigits_21 rfl 0 rfl ?_
    refine gImul (pc := 22) hC dX0_becomeDigits_22 rfl ?_
    refine gIushr (pc := 23) hC dX0_becomeDigits_23 rfl ?_
    refine gBipush (pc := 24) hC (v := (nI 15)) dX0_becomeDigits_24 (by decide +kernel) ?_
    refine gIand (pc := 26) hC (v := (nI (dg x i).val)) dX0_becomeDigits_26 (j_dig x hi) ?_
    obtain ⟨σ3, eσ3⟩ : ∃ ζ : cSt, ζ = cNm σ1 k (upd (σ1.2.2 k) i (nI (dg x i).val)) := ⟨_, rfl⟩
    refine cNumSt (pc := 27) hC (K := k) hk i (rfl) (by omega) eσ3 dX0_becomeDigits_27 ?_
    refine gIinc (pc := 28) hC (v := (nI (i + 1))) (lv' := [(2, .int (nI (i + 1))), (0, .ref (la L k)), (1, .int x)]) dX0_becomeDigits_28 (q := 0) rfl (nI_1 _) (by decide) rfl ?_
    refine gGoto (pc := 31) hC (tgt := 8) dX0_becomeDigits_31 (by decide) ?_
    refine gLoc (lv' := [(2, .int (nI (i + 1))), (0, .ref (la L k)), (1, .int x)]) [0, 1, 2] rfl ?_
    exact ih (σ3) (by subst eσ3; exact ⟨hI.1.tr (cSame.nm _ _ _), hI.2.1, lt_s (fun j hj => by rw [cNm_at, upd_ne _ _ (by omega)]; exact hI.2.2.1 j hj) (by rw [cNm_at]; exact upd_at _ _ _), fun j hj hj2 => by rw [cNm_at, upd_ne _ _ (by omega)]; exact hI.2.2.2 j hj hj2⟩)

abbrev rmX0_becomeLengthened : Room := { frames := 2, cells := 0, slots := 0, locals := 60 }
set_option maxRecDepth 100000 in
set_option maxHeartbeats 4000000 in
theorem c_X0_becomeLengthened (l : Launch) (D : va_G) (L : cLay) (σ : cSt) (k i0 n : Nat) (F : Nat → Rg) (hk : k < 10) (hi0 : i0 < 10) (hne : i0 ≠ k) (hF : rowIs σ i0 n F) (hn : n ≤ 8) : gM l yX0_becomeLengthened wsX0_becomeLengthened rmX0_becomeLengthened D (cTy L) (WC L σ) [.ref (la L k), .ref (la L i0)] 0 0 (fun r w => r = none ∧ ∃ σ', w = WC L σ' ∧ cSame σ σ' k ∧ rowIs σ' k (2 * n) (fun j => if j < n then F j else 0)) := by
  refine gM.of (cc := cX0_becomeLengthened) (maxL := 2) (ret := none) (own := RX0) (by decide) rfl rfl (Nat.le_of_ble_eq_true rfl) rfl ?_
  intro p e s m args below meth c A Q hC hr hnm hQ
  have hin0 : ∀ w ∈ u_ws RX0 TX0 2, w ∈ wsX0_becomeLengthened := by decide +kernel
  have hl9 : Cond.fieldLink RX0 9 "Rootrows$Row" "numbers" "[I" ∈ wsX0_becomeLengthened := by decide +kernel
  have hl15 : Cond.fieldLink RX0 15 "Rootrows$Row" "size" "I" ∈ wsX0_becomeLengthened := by decide +kernel
  refine gAloadN (pc := 0) hC dX0_becomeLengthened_0 rfl 0 rfl ?_
  refine gIconst (pc := 1) hC (v := (nI 2)) dX0_becomeLengthened_1 (by decide +kernel) ?_
  refine gAloadN (pc := 2) hC dX0_becomeLengthened_2 rfl 1 rfl ?_
  refine cGetSize (pc := 3) hC (K := i0) (v := (nI n)) hi0 hin0 hl15 (hF.1) dX0_becomeLengthened_3 ?_
  refine gImul (pc := 6) hC (v := (nI (2 * n))) dX0_becomeLengthened_6 (pk_mul _ _) ?_
  refine gV (pc := 7) (rest := []) (ci := 0) (q0 := 2 + 2 * k) hC (c_X0_clear l D L σ k hk (nI (2 * n))) rfl (wc_row hk) (cwV 1 hC.2.2.2.2.1 gX0_becomeLengthened_X0_clear rfl rfl rfl (by decide +kernel) ⟨Nat.le_of_ble_eq_true rfl, Nat.le_of_ble_eq_true rfl⟩) rfl rfl (Nat.le_of_ble_eq_true rfl) dX0_becomeLengthened_7 ⟨Nat.le_of_ble_eq_true rfl, Nat.le_of_ble_eq_true rfl⟩ (fun v w1 hp => ?_)
  obtain ⟨rfl, σ', rfl, h1, h2, h3⟩ := hp
  refine gStk (st' := []) (pc' := 10) rfl rfl ?_
  refine gAloadN (pc := 10) hC dX0_becomeLengthened_10 rfl 1 rfl ?_
  refine cGetNums (pc := 11) hC (K := i0) hi0 hin0 hl9 dX0_becomeLengthened_11 ?_
  refine gIconst (pc := 14) hC (v := (nI 0)) dX0_becomeLengthened_14 (by decide +kernel) ?_
  refine gAloadN (pc := 15) hC dX0_becomeLengthened_15 rfl 0 rfl ?_
  refine cGetNums (pc := 16) hC (K := k) hk hin0 hl9 dX0_becomeLengthened_16 ?_
  refine gIconst (pc := 19) hC (v := (nI 0)) dX0_becomeLengthened_19 (by decide +kernel) ?_
  refine gAloadN (pc := 20) hC dX0_becomeLengthened_20 rfl 1 rfl ?_
  refine cGetSize (pc := 21) hC (K := i0) (v := (nI n)) hi0 hin0 hl15 ((hF.kept h1 hne).1) dX0_becomeLengthened_21 ?_
  obtain ⟨σ1, eσ1⟩ : ∃ ζ : cSt, ζ = cNm σ' k (va_cpy (σ'.2.2 i0) (σ'.2.2 k) 0 0 n) := ⟨_, rfl⟩
  refine cCopy (pc := 24) (K := k) (J := i0) hC hk hi0 0 0 n (rfl) (rfl) (rfl) (by omega) (by omega) (by decide +kernel) (by decide +kernel) (by decide +kernel) (by decide +kernel) (Nat.le_of_ble_eq_true rfl) (Nat.le_of_ble_eq_true rfl) eσ1 dX0_becomeLengthened_24 ?_
  exact gRetV hC hQ hr (Nat.le_of_ble_eq_true rfl) (Nat.le_of_ble_eq_true rfl) dX0_becomeLengthened_27 (⟨rfl, σ1, rfl, by subst eσ1; exact h1.tr (cSame.nm _ _ _), by subst eσ1; exact h2, fun j hj => by subst eσ1; rw [cNm_at]; show _ = nI (if j < n then F j else 0).val; by_cases q : j < n; rw [if_pos q, pk_cpy_in (Nat.zero_le _) (by omega)]; simpa using (hF.kept h1 hne).2 j q; rw [if_neg q, pk_cpy_out (by omega), h3 j (by omega)]; rfl⟩)

abbrev rmX0_becomeScaled : Room := { frames := 2, cells := 0, slots := 0, locals := 42 }
set_option maxRecDepth 100000 in
set_option maxHeartbeats 4000000 in
theorem c_X0_becomeScaled (l : Launch) (D : va_G) (L : cLay) (σ : cSt) (k i0 n : Nat) (F : Nat → Rg) (y : Int32) (u : Rg) (hk : k < 10) (hi0 : i0 < 10) (hF : rowIs σ i0 n F) (hn : okN n) (hy : y = nI u.val) : gM l yX0_becomeScaled wsX0_becomeScaled rmX0_becomeScaled D (cTy L) (WC L σ) [.ref (la L k), .ref (la L i0), .int y] 0 0 (fun r w => r = none ∧ ∃ σ', w = WC L σ' ∧ cSame σ σ' k ∧ rowIs σ' k n (fun i => F i * u)) := by
  refine gM.of (cc := cX0_becomeScaled) (maxL := 4) (ret := none) (own := RX0) (by decide) rfl rfl (Nat.le_of_ble_eq_true rfl) rfl ?_
  intro p e s m args below meth c A Q hC hr hnm hQ
  have hin0 : ∀ w ∈ u_ws RX0 TX0 2, w ∈ wsX0_becomeScaled := by decide +kernel
  have hl9 : Cond.fieldLink RX0 9 "Rootrows$Row" "numbers" "[I" ∈ wsX0_becomeScaled := by decide +kernel
  have hl15 : Cond.fieldLink RX0 15 "Rootrows$Row" "size" "I" ∈ wsX0_becomeScaled := by decide +kernel
  have hnl := hn.le
  refine gAloadN (pc := 0) hC dX0_becomeScaled_0 rfl 0 rfl ?_
  refine gAloadN (pc := 1) hC dX0_becomeScaled_1 rfl 1 rfl ?_
  refine cGetSize (pc := 2) hC (K := i0) (v := (nI n)) hi0 hin0 hl15 (hF.1) dX0_becomeScaled_2 ?_
  obtain ⟨σ1, eσ1⟩ : ∃ ζ : cSt, ζ = cSz σ k (nI n) := ⟨_, rfl⟩
  refine cPutSize (pc := 5) hC (K := k) hk hin0 hl15 eσ1 dX0_becomeScaled_5 ?_
  refine gIconst (pc := 8) hC (v := (nI 0)) dX0_becomeScaled_8 (by decide +kernel) ?_
  refine gIstoreN (pc := 9) hC (lv' := [(3, .int (nI 0)), (0, .ref (la L k)), (1, .ref (la L i0)), (2, .int y)]) dX0_becomeScaled_9 rfl (by decide) rfl ?_
  refine gLoc (lv' := [(3, .int (nI 0)), (0, .ref (la L k)), (1, .ref (la L i0)), (2, .int y)]) [0, 1, 2, 3] rfl ?_
  refine loopUp (S := cSt) (fun i ζ => gG p l e rmX0_becomeScaled s m args below meth c D A 4 0 0 Q (WC L ζ) 10 [(3, .int (nI i)), (0, .ref (la L k)), (1, .ref (la L i0)), (2, .int y)] []) (fun i ζ => fillA σ1 k n (fun i => F i * u) i ζ) n ?_ ?_ 0 (σ1) (by omega) (⟨⟨cSame.rf σ1 k, by rw [eσ1]; exact cSz_at _ _ _, fun j hj => absurd hj (Nat.not_lt_zero j)⟩, fun _ _ => rfl⟩)
  · intro ζ hI
    revert hI; generalize ζ = σ1; intro hI
    refine gIloadN (pc := 10) hC dX0_becomeScaled_10 rfl 0 rfl ?_
    refine gAloadN (pc := 11) hC dX0_becomeScaled_11 rfl 1 rfl ?_
    refine cGetSize (pc := 12) hC (K := k) (v := (nI n)) hk hin0 hl15 (hI.1.2.1) dX0_becomeScaled_12 ?_
    refine gIcmp_ge (pc := 15) hC (tgt := 40) dX0_becomeScaled_15 (by decide) (fun hc2 => ?_) (fun hc2 => absurd (nI_le (Nat.le_refl _) (by omega)) hc2)
    exact gRetV hC hQ hr (Nat.le_of_ble_eq_true rfl) (Nat.le_of_ble_eq_true rfl) dX0_becomeScaled_40 (⟨rfl, σ1, rfl, by subst eσ1; exact (cSame.sz _ _ _).tr hI.1.1, hI.1.is.2⟩)
  · intro i ζ hi hI ih
    revert hI; generalize ζ = σ1; intro hI
    have hrd : ∀ q, σ1.2.2 q i = σ.2.2 q i := fun q => by rw [hI.rd (q := q), eσ1]; rfl
    refine gIloadN (pc := 10) hC dX0_becomeScaled_10 rfl 0 rfl ?_
    refine gAloadN (pc := 11) hC dX0_becomeScaled_11 rfl 1 rfl ?_
    refine cGetSize (pc := 12) hC (K := k) (v := (nI n)) hk hin0 hl15 (hI.1.2.1) dX0_becomeScaled_12 ?_
    refine gIcmp_ge (pc := 15) hC (tgt := 40) dX0_becomeScaled_15 (by decide) (fun hc3 => absurd hc3 (nI_ge hi (by omega))) (fun hc3 => ?_)
    refine gAloadN (pc := 18) hC dX0_becomeScaled_18 rfl 1 rfl ?_
    refine cGetNums (pc := 19) hC (K := k) hk hin0 hl9 dX0_becomeScaled_19 ?_
    refine gIloadN (pc := 22) hC dX0_becomeScaled_22 rfl 0 rfl ?_
    refine gAloadN (pc := 23) hC dX0_becomeScaled_23 rfl 2 rfl ?_
    refine cGetNums (pc := 24) hC (K := i0) hi0 hin0 hl9 dX0_becomeScaled_24 ?_
    refine gIloadN (pc := 27) hC dX0_becomeScaled_27 rfl 0 rfl ?_
    refine cNumLd (pc := 28) hC (K := i0) (v := (nI (F i).val)) hi0 i (rfl) (by omega) ((hrd i0).trans (hF.2 i hi)) dX0_becomeScaled_28 ?_
    refine gIloadN (pc := 29) hC dX0_becomeScaled_29 rfl 3 rfl ?_
    refine gSN (pc := 30) (rest := [.int (nI i), .ref (lb L k)]) hC (c_X1_multiplied l D _ _ _ _ (F i) u rfl hy) ⟨va_cnB (host := "Rootrows") 2 hC.2.2.2.2.1 gX0_becomeScaled_X1_multiplied_n47 rfl rfl rfl (hC.2.2.2.2.2.2.2.1.1 _ (by decide +kernel)) (hC.2.2.2.2.1 (.initialized RX1) (by decide +kernel)) (by decide +kernel) ⟨Nat.le_of_ble_eq_true rfl, Nat.le_of_ble_eq_true rfl⟩, hC.2.2.2.2.1 (.static yX1_multiplied) (by decide +kernel), trivial⟩ rfl rfl (Nat.le_of_ble_eq_true rfl) dX0_becomeScaled_30 ⟨Nat.le_of_ble_eq_true rfl, Nat.le_of_ble_eq_true rfl⟩ (fun v w1 hp => ?_)
    obtain ⟨rfl, rfl⟩ := hp
    refine gStk (st' := [.int (nI ((fun i => F i * u) i).val), .int (nI i), .ref (lb L k)]) (pc' := 33) rfl rfl ?_
    obtain ⟨σ4, eσ4⟩ : ∃ ζ : cSt, ζ = cNm σ1 k (upd (σ1.2.2 k) i (nI ((fun i => F i * u) i).val)) := ⟨_, rfl⟩
    refine cNumSt (pc := 33) hC (K := k) hk i (rfl) (by omega) eσ4 dX0_becomeScaled_33 ?_
    refine gIinc (pc := 34) hC (v := (nI (i + 1))) (lv' := [(3, .int (nI (i + 1))), (0, .ref (la L k)), (1, .ref (la L i0)), (2, .int y)]) dX0_becomeScaled_34 (q := 0) rfl (nI_1 _) (by decide) rfl ?_
    refine gGoto (pc := 37) hC (tgt := 10) dX0_becomeScaled_37 (by decide) ?_
    refine gLoc (lv' := [(3, .int (nI (i + 1))), (0, .ref (la L k)), (1, .ref (la L i0)), (2, .int y)]) [0, 1, 2, 3] rfl ?_
    exact ih (σ4) (hI.step eσ4 rfl)

abbrev rmX0_becomeSums : Room := { frames := 1, cells := 0, slots := 0, locals := 21 }
set_option maxRecDepth 100000 in
set_option maxHeartbeats 4000000 in
theorem c_X0_becomeSums (l : Launch) (D : va_G) (L : cLay) (σ : cSt) (k i0 j0 n : Nat) (F G : Nat → Rg) (hk : k < 10) (hi0 : i0 < 10) (hj0 : j0 < 10) (hF : rowIs σ i0 n F) (hG : rowIs σ j0 n G) (hn : okN n) : gM l yX0_becomeSums wsX0_becomeSums rmX0_becomeSums D (cTy L) (WC L σ) [.ref (la L k), .ref (la L i0), .ref (la L j0)] 0 0 (fun r w => r = none ∧ ∃ σ', w = WC L σ' ∧ cSame σ σ' k ∧ rowIs σ' k n (fun i => F i + G i)) := by
  refine gM.of (cc := cX0_becomeSums) (maxL := 4) (ret := none) (own := RX0) (by decide) rfl rfl (Nat.le_of_ble_eq_true rfl) rfl ?_
  intro p e s m args below meth c A Q hC hr hnm hQ
  have hin0 : ∀ w ∈ u_ws RX0 TX0 2, w ∈ wsX0_becomeSums := by decide +kernel
  have hl9 : Cond.fieldLink RX0 9 "Rootrows$Row" "numbers" "[I" ∈ wsX0_becomeSums := by decide +kernel
  have hl15 : Cond.fieldLink RX0 15 "Rootrows$Row" "size" "I" ∈ wsX0_becomeSums := by decide +kernel
  have hnl := hn.le
  refine gAloadN (pc := 0) hC dX0_becomeSums_0 rfl 0 rfl ?_
  refine gAloadN (pc := 1) hC dX0_becomeSums_1 rfl 1 rfl ?_
  refine cGetSize (pc := 2) hC (K := i0) (v := (nI n)) hi0 hin0 hl15 (hF.1) dX0_becomeSums_2 ?_
  obtain ⟨σ1, eσ1⟩ : ∃ ζ : cSt, ζ = cSz σ k (nI n) := ⟨_, rfl⟩
  refine cPutSize (pc := 5) hC (K := k) hk hin0 hl15 eσ1 dX0_becomeSums_5 ?_
  refine gIconst (pc := 8) hC (v := (nI 0)) dX0_becomeSums_8 (by decide +kernel) ?_
  refine gIstoreN (pc := 9) hC (lv' := [(3, .int (nI 0)), (0, .ref (la L k)), (1, .ref (la L i0)), (2, .ref (la L j0))]) dX0_becomeSums_9 rfl (by decide) rfl ?_
  refine gLoc (lv' := [(3, .int (nI 0)), (0, .ref (la L k)), (1, .ref (la L i0)), (2, .ref (la L j0))]) [0, 1, 2, 3] rfl ?_
  refine loopUp (S := cSt) (fun i ζ => gG p l e rmX0_becomeSums s m args below meth c D A 4 0 0 Q (WC L ζ) 10 [(3, .int (nI i)), (0, .ref (la L k)), (1, .ref (la L i0)), (2, .ref (la L j0))] []) (fun i ζ => fillA σ1 k n (fun i => F i + G i) i ζ) n ?_ ?_ 0 (σ1) (by omega) (⟨⟨cSame.rf σ1 k, by rw [eσ1]; exact cSz_at _ _ _, fun j hj => absurd hj (Nat.not_lt_zero j)⟩, fun _ _ => rfl⟩)
  · intro ζ hI
    revert hI; generalize ζ = σ1; intro hI
    refine gIloadN (pc := 10) hC dX0_becomeSums_10 rfl 0 rfl ?_
    refine gAloadN (pc := 11) hC dX0_becomeSums_11 rfl 1 rfl ?_
    refine cGetSize (pc := 12) hC (K := k) (v := (nI n)) hk hin0 hl15 (hI.1.2.1) dX0_becomeSums_12 ?_
    refine gIcmp_ge (pc := 15) hC (tgt := 45) dX0_becomeSums_15 (by decide) (fun hc2 => ?_) (fun hc2 => absurd (nI_le (Nat.le_refl _) (by omega)) hc2)
    exact gRetV hC hQ hr (Nat.le_of_ble_eq_true rfl) (Nat.le_of_ble_eq_true rfl) dX0_becomeSums_45 (⟨rfl, σ1, rfl, by subst eσ1; exact (cSame.sz _ _ _).tr hI.1.1, hI.1.is.2⟩)
  · intro i ζ hi hI ih
    revert hI; generalize ζ = σ1; intro hI
    have hrd : ∀ q, σ1.2.2 q i = σ.2.2 q i := fun q => by rw [hI.rd (q := q), eσ1]; rfl
    refine gIloadN (pc := 10) hC dX0_becomeSums_10 rfl 0 rfl ?_
    refine gAloadN (pc := 11) hC dX0_becomeSums_11 rfl 1 rfl ?_
    refine cGetSize (pc := 12) hC (K := k) (v := (nI n)) hk hin0 hl15 (hI.1.2.1) dX0_becomeSums_12 ?_
    refine gIcmp_ge (pc := 15) hC (tgt := 45) dX0_becomeSums_15 (by decide) (fun hc3 => absurd hc3 (nI_ge hi (by omega))) (fun hc3 => ?_)
    refine gAloadN (pc := 18) hC dX0_becomeSums_18 rfl 1 rfl ?_
    refine cGetNums (pc := 19) hC (K := k) hk hin0 hl9 dX0_becomeSums_19 ?_
    refine gIloadN (pc := 22) hC dX0_becomeSums_22 rfl 0 rfl ?_
    refine gAloadN (pc := 23) hC dX0_becomeSums_23 rfl 2 rfl ?_
    refine cGetNums (pc := 24) hC (K := i0) hi0 hin0 hl9 dX0_becomeSums_24 ?_
    refine gIloadN (pc := 27) hC dX0_becomeSums_27 rfl 0 rfl ?_
    refine cNumLd (pc := 28) hC (K := i0) (v := (nI (F i).val)) hi0 i (rfl) (by omega) ((hrd i0).trans (hF.2 i hi)) dX0_becomeSums_28 ?_
    refine gAloadN (pc := 29) hC dX0_becomeSums_29 rfl 3 rfl ?_
    refine cGetNums (pc := 30) hC (K := j0) hj0 hin0 hl9 dX0_becomeSums_30 ?_
    refine gIloadN (pc := 33) hC dX0_becomeSums_33 rfl 0 rfl ?_
    refine cNumLd (pc := 34) hC (K := j0) (v := (nI (G i).val)) hj0 i (rfl) (by omega) ((hrd j0).trans (hG.2 i hi)) dX0_becomeSums_34 ?_
    refine gSN (pc := 35) (rest := [.int (nI i), .ref (lb L k)]) hC (c_X1_added l D _ _ _ _ (F i) (G i) rfl rfl) ⟨va_cnB (host := "Rootrows") 2 hC.2.2.2.2.1 gX0_becomeSums_X1_added_n51 rfl rfl rfl (hC.2.2.2.2.2.2.2.1.1 _ (by decide +kernel)) (hC.2.2.2.2.1 (.initialized RX1) (by decide +kernel)) (by decide +kernel) ⟨Nat.le_of_ble_eq_true rfl, Nat.le_of_ble_eq_true rfl⟩, hC.2.2.2.2.1 (.static yX1_added) (by decide +kernel), trivial⟩ rfl rfl (Nat.le_of_ble_eq_true rfl) dX0_becomeSums_35 ⟨Nat.le_of_ble_eq_true rfl, Nat.le_of_ble_eq_true rfl⟩ (fun v w1 hp => ?_)
    obtain ⟨rfl, rfl⟩ := hp
    refine gStk (st' := [.int (nI ((fun i => F i + G i) i).val), .int (nI i), .ref (lb L k)]) (pc' := 38) rfl rfl ?_
    obtain ⟨σ4, eσ4⟩ : ∃ ζ : cSt, ζ = cNm σ1 k (upd (σ1.2.2 k) i (nI ((fun i => F i + G i) i).val)) := ⟨_, rfl⟩
    refine cNumSt (pc := 38) hC (K := k) hk i (rfl) (by omega) eσ4 dX0_becomeSums_38 ?_
    refine gIinc (pc := 39) hC (v := (nI (i + 1))) (lv' := [(3, .int (nI (i + 1))), (0, .ref (la L k)), (1, .ref (la L i0)), (2, .ref (la L j0))]) dX0_becomeSums_39 (q := 0) rfl (nI_1 _) (by decide) rfl ?_
    refine gGoto (pc := 42) hC (tgt := 10) dX0_becomeSums_42 (by decide) ?_
    refine gLoc (lv' := [(3, .int (nI (i + 1))), (0, .ref (la L k)), (1, .ref (la L i0)), (2, .ref (la L j0))]) [0, 1, 2, 3] rfl ?_
    exact ih (σ4) (hI.step eσ4 rfl)

abbrev rmX0_becomeDifferences : Room := { frames := 1, cells := 0, slots := 0, locals := 21 }
set_option maxRecDepth 100000 in
set_option maxHeartbeats 4000000 in
theorem c_X0_becomeDifferences (l : Launch) (D : va_G) (L : cLay) (σ : cSt) (k i0 j0 n : Nat) (F G : Nat → Rg) (hk : k < 10) (hi0 : i0 < 10) (hj0 : j0 < 10) (hF : rowIs σ i0 n F) (hG : rowIs σ j0 n G) (hn : okN n) : gM l yX0_becomeDifferences wsX0_becomeDifferences rmX0_becomeDifferences D (cTy L) (WC L σ) [.ref (la L k), .ref (la L i0), .ref (la L j0)] 0 0 (fun r w => r = none ∧ ∃ σ', w = WC L σ' ∧ cSame σ σ' k ∧ rowIs σ' k n (fun i => F i - G i)) := by
  refine gM.of (cc := cX0_becomeDifferences) (maxL := 4) (ret := none) (own := RX0) (by decide) rfl rfl (Nat.le_of_ble_eq_true rfl) rfl ?_
  intro p e s m args below meth c A Q hC hr hnm hQ
  have hin0 : ∀ w ∈ u_ws RX0 TX0 2, w ∈ wsX0_becomeDifferences := by decide +kernel
  have hl9 : Cond.fieldLink RX0 9 "Rootrows$Row" "numbers" "[I" ∈ wsX0_becomeDifferences := by decide +kernel
  have hl15 : Cond.fieldLink RX0 15 "Rootrows$Row" "size" "I" ∈ wsX0_becomeDifferences := by decide +kernel
  have hnl := hn.le
  refine gAloadN (pc := 0) hC dX0_becomeDifferences_0 rfl 0 rfl ?_
  refine gAloadN (pc := 1) hC dX0_becomeDifferences_1 rfl 1 rfl ?_
  refine cGetSize (pc := 2) hC (K := i0) (v := (nI n)) hi0 hin0 hl15 (hF.1) dX0_becomeDifferences_2 ?_
  obtain ⟨σ1, eσ1⟩ : ∃ ζ : cSt, ζ = cSz σ k (nI n) := ⟨_, rfl⟩
  refine cPutSize (pc := 5) hC (K := k) hk hin0 hl15 eσ1 dX0_becomeDifferences_5 ?_
  refine gIconst (pc := 8) hC (v := (nI 0)) dX0_becomeDifferences_8 (by decide +kernel) ?_
  refine gIstoreN (pc := 9) hC (lv' := [(3, .int (nI 0)), (0, .ref (la L k)), (1, .ref (la L i0)), (2, .ref (la L j0))]) dX0_becomeDifferences_9 rfl (by decide) rfl ?_
  refine gLoc (lv' := [(3, .int (nI 0)), (0, .ref (la L k)), (1, .ref (la L i0)), (2, .ref (la L j0))]) [0, 1, 2, 3] rfl ?_
  refine loopUp (S := cSt) (fun i ζ => gG p l e rmX0_becomeDifferences s m args below meth c D A 4 0 0 Q (WC L ζ) 10 [(3, .int (nI i)), (0, .ref (la L k)), (1, .ref (la L i0)), (2, .ref (la L j0))] []) (fun i ζ => fillA σ1 k n (fun i => F i - G i) i ζ) n ?_ ?_ 0 (σ1) (by omega) (⟨⟨cSame.rf σ1 k, by rw [eσ1]; exact cSz_at _ _ _, fun j hj => absurd hj (Nat.not_lt_zero j)⟩, fun _ _ => rfl⟩)
  · intro ζ hI
    revert hI; generalize ζ = σ1; intro hI
    refine gIloadN (pc := 10) hC dX0_becomeDifferences_10 rfl 0 rfl ?_
    refine gAloadN (pc := 11) hC dX0_becomeDifferences_11 rfl 1 rfl ?_
    refine cGetSize (pc := 12) hC (K := k) (v := (nI n)) hk hin0 hl15 (hI.1.2.1) dX0_becomeDifferences_12 ?_
    refine gIcmp_ge (pc := 15) hC (tgt := 45) dX0_becomeDifferences_15 (by decide) (fun hc2 => ?_) (fun hc2 => absurd (nI_le (Nat.le_refl _) (by omega)) hc2)
    exact gRetV hC hQ hr (Nat.le_of_ble_eq_true rfl) (Nat.le_of_ble_eq_true rfl) dX0_becomeDifferences_45 (⟨rfl, σ1, rfl, by subst eσ1; exact (cSame.sz _ _ _).tr hI.1.1, hI.1.is.2⟩)
  · intro i ζ hi hI ih
    revert hI; generalize ζ = σ1; intro hI
    have hrd : ∀ q, σ1.2.2 q i = σ.2.2 q i := fun q => by rw [hI.rd (q := q), eσ1]; rfl
    refine gIloadN (pc := 10) hC dX0_becomeDifferences_10 rfl 0 rfl ?_
    refine gAloadN (pc := 11) hC dX0_becomeDifferences_11 rfl 1 rfl ?_
    refine cGetSize (pc := 12) hC (K := k) (v := (nI n)) hk hin0 hl15 (hI.1.2.1) dX0_becomeDifferences_12 ?_
    refine gIcmp_ge (pc := 15) hC (tgt := 45) dX0_becomeDifferences_15 (by decide) (fun hc3 => absurd hc3 (nI_ge hi (by omega))) (fun hc3 => ?_)
    refine gAloadN (pc := 18) hC dX0_becomeDifferences_18 rfl 1 rfl ?_
    refine cGetNums (pc := 19) hC (K := k) hk hin0 hl9 dX0_becomeDifferences_19 ?_
    refine gIloadN (pc := 22) hC dX0_becomeDifferences_22 rfl 0 rfl ?_
    refine gAloadN (pc := 23) hC dX0_becomeDifferences_23 rfl 2 rfl ?_
    refine cGetNums (pc := 24) hC (K := i0) hi0 hin0 hl9 dX0_becomeDifferences_24 ?_
    refine gIloadN (pc := 27) hC dX0_becomeDifferences_27 rfl 0 rfl ?_
    refine cNumLd (pc := 28) hC (K := i0) (v := (nI (F i).val)) hi0 i (rfl) (by omega) ((hrd i0).trans (hF.2 i hi)) dX0_becomeDifferences_28 ?_
    refine gAloadN (pc := 29) hC dX0_becomeDifferences_29 rfl 3 rfl ?_
    refine cGetNums (pc := 30) hC (K := j0) hj0 hin0 hl9 dX0_becomeDifferences_30 ?_
    refine gIloadN (pc := 33) hC dX0_becomeDifferences_33 rfl 0 rfl ?_
    refine cNumLd (pc := 34) hC (K := j0) (v := (nI (G i).val)) hj0 i (rfl) (by omega) ((hrd j0).trans (hG.2 i hi)) dX0_becomeDifferences_34 ?_
    refine gSN (pc := 35) (rest := [.int (nI i), .ref (lb L k)]) hC (c_X1_lessened l D _ _ _ _ (F i) (G i) rfl rfl) ⟨va_cnB (host := "Rootrows") 2 hC.2.2.2.2.1 gX0_becomeDifferences_X1_lessened_n54 rfl rfl rfl (hC.2.2.2.2.2.2.2.1.1 _ (by decide +kernel)) (hC.2.2.2.2.1 (.initialized RX1) (by decide +kernel)) (by decide +kernel) ⟨Nat.le_of_ble_eq_true rfl, Nat.le_of_ble_eq_true rfl⟩, hC.2.2.2.2.1 (.static yX1_lessened) (by decide +kernel), trivial⟩ rfl rfl (Nat.le_of_ble_eq_true rfl) dX0_becomeDifferences_35 ⟨Nat.le_of_ble_eq_true rfl, Nat.le_of_ble_eq_true rfl⟩ (fun v w1 hp => ?_)
    obtain ⟨rfl, rfl⟩ := hp
    refine gStk (st' := [.int (nI ((fun i => F i - G i) i).val), .int (nI i), .ref (lb L k)]) (pc' := 38) rfl rfl ?_
    obtain ⟨σ4, eσ4⟩ : ∃ ζ : cSt, ζ = cNm σ1 k (upd (σ1.2.2 k) i (nI ((fun i => F i - G i) i).val)) := ⟨_, rfl⟩
    refine cNumSt (pc := 38) hC (K := k) hk i (rfl) (by omega) eσ4 dX0_becomeDifferences_38 ?_
    refine gIinc (pc := 39) hC (v := (nI (i + 1))) (lv' := [(3, .int (nI (i + 1))), (0, .ref (la L k)), (1, .ref (la L i0)), (2, .ref (la L j0))]) dX0_becomeDifferences_39 (q := 0) rfl (nI_1 _) (by decide) rfl ?_
    refine gGoto (pc := 42) hC (tgt := 10) dX0_becomeDifferences_42 (by decide) ?_
    refine gLoc (lv' := [(3, .int (nI (i + 1))), (0, .ref (la L k)), (1, .ref (la L i0)), (2, .ref (la L j0))]) [0, 1, 2, 3] rfl ?_
    exact ih (σ4) (hI.step eσ4 rfl)

abbrev rmX0_becomeProducts : Room := { frames := 2, cells := 0, slots := 0, locals := 42 }
set_option maxRecDepth 100000 in
set_option maxHeartbeats 4000000 in
theorem c_X0_becomeProducts (l : Launch) (D : va_G) (L : cLay) (σ : cSt) (k i0 j0 n : Nat) (F G : Nat → Rg) (hk : k < 10) (hi0 : i0 < 10) (hj0 : j0 < 10) (hF : rowIs σ i0 n F) (hG : rowIs σ j0 n G) (hn : okN n) : gM l yX0_becomeProducts wsX0_becomeProducts rmX0_becomeProducts D (cTy L) (WC L σ) [.ref (la L k), .ref (la L i0), .ref (la L j0)] 0 0 (fun r w => r = none ∧ ∃ σ', w = WC L σ' ∧ cSame σ σ' k ∧ rowIs σ' k n (fun i => F i * G i)) := by
  refine gM.of (cc := cX0_becomeProducts) (maxL := 4) (ret := none) (own := RX0) (by decide) rfl rfl (Nat.le_of_ble_eq_true rfl) rfl ?_
  intro p e s m args below meth c A Q hC hr hnm hQ
  have hin0 : ∀ w ∈ u_ws RX0 TX0 2, w ∈ wsX0_becomeProducts := by decide +kernel
  have hl9 : Cond.fieldLink RX0 9 "Rootrows$Row" "numbers" "[I" ∈ wsX0_becomeProducts := by decide +kernel
  have hl15 : Cond.fieldLink RX0 15 "Rootrows$Row" "size" "I" ∈ wsX0_becomeProducts := by decide +kernel
  have hnl := hn.le
  refine gAloadN (pc := 0) hC dX0_becomeProducts_0 rfl 0 rfl ?_
  refine gAloadN (pc := 1) hC dX0_becomeProducts_1 rfl 1 rfl ?_
  refine cGetSize (pc := 2) hC (K := i0) (v := (nI n)) hi0 hin0 hl15 (hF.1) dX0_becomeProducts_2 ?_
  obtain ⟨σ1, eσ1⟩ : ∃ ζ : cSt, ζ = cSz σ k (nI n) := ⟨_, rfl⟩
  refine cPutSize (pc := 5) hC (K := k) hk hin0 hl15 eσ1 dX0_becomeProducts_5 ?_
  refine gIconst (pc := 8) hC (v := (nI 0)) dX0_becomeProducts_8 (by decide +kernel) ?_
  refine gIstoreN (pc := 9) hC (lv' := [(3, .int (nI 0)), (0, .ref (la L k)), (1, .ref (la L i0)), (2, .ref (la L j0))]) dX0_becomeProducts_9 rfl (by decide) rfl ?_
  refine gLoc (lv' := [(3, .int (nI 0)), (0, .ref (la L k)), (1, .ref (la L i0)), (2, .ref (la L j0))]) [0, 1, 2, 3] rfl ?_
  refine loopUp (S := cSt) (fun i ζ => gG p l e rmX0_becomeProducts s m args below meth c D A 4 0 0 Q (WC L ζ) 10 [(3, .int (nI i)), (0, .ref (la L k)), (1, .ref (la L i0)), (2, .ref (la L j0))] []) (fun i ζ => fillA σ1 k n (fun i => F i * G i) i ζ) n ?_ ?_ 0 (σ1) (by omega) (⟨⟨cSame.rf σ1 k, by rw [eσ1]; exact cSz_at _ _ _, fun j hj => absurd hj (Nat.not_lt_zero j)⟩, fun _ _ => rfl⟩)
  · intro ζ hI
    revert hI; generalize ζ = σ1; intro hI
    refine gIloadN (pc := 10) hC dX0_becomeProducts_10 rfl 0 rfl ?_
    refine gAloadN (pc := 11) hC dX0_becomeProducts_11 rfl 1 rfl ?_
    refine cGetSize (pc := 12) hC (K := k) (v := (nI n)) hk hin0 hl15 (hI.1.2.1) dX0_becomeProducts_12 ?_
    refine gIcmp_ge (pc := 15) hC (tgt := 45) dX0_becomeProducts_15 (by decide) (fun hc2 => ?_) (fun hc2 => absurd (nI_le (Nat.le_refl _) (by omega)) hc2)
    exact gRetV hC hQ hr (Nat.le_of_ble_eq_true rfl) (Nat.le_of_ble_eq_true rfl) dX0_becomeProducts_45 (⟨rfl, σ1, rfl, by subst eσ1; exact (cSame.sz _ _ _).tr hI.1.1, hI.1.is.2⟩)
  · intro i ζ hi hI ih
    revert hI; generalize ζ = σ1; intro hI
    have hrd : ∀ q, σ1.2.2 q i = σ.2.2 q i := fun q => by rw [hI.rd (q := q), eσ1]; rfl
    refine gIloadN (pc := 10) hC dX0_becomeProducts_10 rfl 0 rfl ?_
    refine gAloadN (pc := 11) hC dX0_becomeProducts_11 rfl 1 rfl ?_
    refine cGetSize (pc := 12) hC (K := k) (v := (nI n)) hk hin0 hl15 (hI.1.2.1) dX0_becomeProducts_12 ?_
    refine gIcmp_ge (pc := 15) hC (tgt := 45) dX0_becomeProducts_15 (by decide) (fun hc3 => absurd hc3 (nI_ge hi (by omega))) (fun hc3 => ?_)
    refine gAloadN (pc := 18) hC dX0_becomeProducts_18 rfl 1 rfl ?_
    refine cGetNums (pc := 19) hC (K := k) hk hin0 hl9 dX0_becomeProducts_19 ?_
    refine gIloadN (pc := 22) hC dX0_becomeProducts_22 rfl 0 rfl ?_
    refine gAloadN (pc := 23) hC dX0_becomeProducts_23 rfl 2 rfl ?_
    refine cGetNums (pc := 24) hC (K := i0) hi0 hin0 hl9 dX0_becomeProducts_24 ?_
    refine gIloadN (pc := 27) hC dX0_becomeProducts_27 rfl 0 rfl ?_
    refine cNumLd (pc := 28) hC (K := i0) (v := (nI (F i).val)) hi0 i (rfl) (by omega) ((hrd i0).trans (hF.2 i hi)) dX0_becomeProducts_28 ?_
    refine gAloadN (pc := 29) hC dX0_becomeProducts_29 rfl 3 rfl ?_
    refine cGetNums (pc := 30) hC (K := j0) hj0 hin0 hl9 dX0_becomeProducts_30 ?_
    refine gIloadN (pc := 33) hC dX0_becomeProducts_33 rfl 0 rfl ?_
    refine cNumLd (pc := 34) hC (K := j0) (v := (nI (G i).val)) hj0 i (rfl) (by omega) ((hrd j0).trans (hG.2 i hi)) dX0_becomeProducts_34 ?_
    refine gSN (pc := 35) (rest := [.int (nI i), .ref (lb L k)]) hC (c_X1_multiplied l D _ _ _ _ (F i) (G i) rfl rfl) ⟨va_cnB (host := "Rootrows") 2 hC.2.2.2.2.1 gX0_becomeProducts_X1_multiplied_n47 rfl rfl rfl (hC.2.2.2.2.2.2.2.1.1 _ (by decide +kernel)) (hC.2.2.2.2.1 (.initialized RX1) (by decide +kernel)) (by decide +kernel) ⟨Nat.le_of_ble_eq_true rfl, Nat.le_of_ble_eq_true rfl⟩, hC.2.2.2.2.1 (.static yX1_multiplied) (by decide +kernel), trivial⟩ rfl rfl (Nat.le_of_ble_eq_true rfl) dX0_becomeProducts_35 ⟨Nat.le_of_ble_eq_true rfl, Nat.le_of_ble_eq_true rfl⟩ (fun v w1 hp => ?_)
    obtain ⟨rfl, rfl⟩ := hp
    refine gStk (st' := [.int (nI ((fun i => F i * G i) i).val), .int (nI i), .ref (lb L k)]) (pc' := 38) rfl rfl ?_
    obtain ⟨σ4, eσ4⟩ : ∃ ζ : cSt, ζ = cNm σ1 k (upd (σ1.2.2 k) i (nI ((fun i => F i * G i) i).val)) := ⟨_, rfl⟩
    refine cNumSt (pc := 38) hC (K := k) hk i (rfl) (by omega) eσ4 dX0_becomeProducts_38 ?_
    refine gIinc (pc := 39) hC (v := (nI (i + 1))) (lv' := [(3, .int (nI (i + 1))), (0, .ref (la L k)), (1, .ref (la L i0)), (2, .ref (la L j0))]) dX0_becomeProducts_39 (q := 0) rfl (nI_1 _) (by decide) rfl ?_
    refine gGoto (pc := 42) hC (tgt := 10) dX0_becomeProducts_42 (by decide) ?_
    refine gLoc (lv' := [(3, .int (nI (i + 1))), (0, .ref (la L k)), (1, .ref (la L i0)), (2, .ref (la L j0))]) [0, 1, 2, 3] rfl ?_
    exact ih (σ4) (hI.step eσ4 rfl)
