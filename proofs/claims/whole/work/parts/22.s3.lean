abbrev rmX1_isNumber : Room := { frames := 0, cells := 0, slots := 0, locals := 0 }
set_option maxRecDepth 100000 in
set_option maxHeartbeats 4000000 in
theorem c_X1_isNumber (l : Launch) (D : va_G) (tys : List (ClassId × FieldType)) (ws : va_W) (x : Int32) : gM l yX1_isNumber wsX1_isNumber rmX1_isNumber D tys ws [.int x] 0 0 (fun r w => w = ws ∧ ∃ b : Int32, r = some (.int b) ∧ ((b = nI 1 ∧ ¬ x < 0 ∧ ¬ 65537 ≤ x) ∨ (b = nI 0 ∧ ¬ (¬ x < 0 ∧ ¬ 65537 ≤ x)))) := by
  refine gM.of (cc := cX1_isNumber) (maxL := 1) (ret := (some .boolean)) (own := RX1) (by decide) rfl rfl (Nat.le_of_ble_eq_true rfl) rfl ?_
  intro p e s m args below meth c A Q hC hr hnm hQ
  refine gIloadN (pc := 0) hC dX1_isNumber_0 rfl 0 rfl ?_
  refine gIf_lt (pc := 1) hC (tgt := 14) dX1_isNumber_1 (by decide) (fun hc1 => ?_) (fun hc1 => ?_)
  · skip
    refine gIconst (pc := 14) hC (v := (nI 0)) dX1_isNumber_14 (by decide +kernel) ?_
    exact gRetZ hC hQ hr (rfl) (Nat.le_of_ble_eq_true rfl) (Nat.le_of_ble_eq_true rfl) dX1_isNumber_15 (⟨rfl, nI 0, rfl, Or.inr ⟨rfl, fun h => h.1 hc1⟩⟩)
  · skip
    refine gIloadN (pc := 4) hC dX1_isNumber_4 rfl 0 rfl ?_
    refine gLdc (pc := 5) hC (v := 65537) dX1_isNumber_5 (by decide +kernel) ?_
    refine gIcmp_ge (pc := 7) hC (tgt := 14) dX1_isNumber_7 (by decide) (fun hc2 => ?_) (fun hc2 => ?_)
    · skip
      refine gIconst (pc := 14) hC (v := (nI 0)) dX1_isNumber_14 (by decide +kernel) ?_
      exact gRetZ hC hQ hr (rfl) (Nat.le_of_ble_eq_true rfl) (Nat.le_of_ble_eq_true rfl) dX1_isNumber_15 (⟨rfl, nI 0, rfl, Or.inr ⟨rfl, fun h => h.2 hc2⟩⟩)
    · skip
      refine gIconst (pc := 10) hC (v := (nI 1)) dX1_isNumber_10 (by decide +kernel) ?_
      refine gGoto (pc := 11) hC (tgt := 15) dX1_isNumber_11 (by decide) ?_
      exact gRetZ hC hQ hr (rfl) (Nat.le_of_ble_eq_true rfl) (Nat.le_of_ble_eq_true rfl) dX1_isNumber_15 (⟨rfl, nI 1, rfl, Or.inl ⟨rfl, hc1, hc2⟩⟩)

abbrev rmX0_isInRange : Room := { frames := 1, cells := 0, slots := 0, locals := 20 }
set_option maxRecDepth 100000 in
set_option maxHeartbeats 4000000 in
theorem c_X0_isInRange (l : Launch) (D : va_G) (L : cLay) (σ : cSt) (k n : Nat) (F : Nat → Rg) (hk : k < 10) (hF : rowIs σ k n F) (hnl : n ≤ 16) : gM l yX0_isInRange wsX0_isInRange rmX0_isInRange D (cTy L) (WC L σ) [.ref (la L k)] 0 0 (fun r w => w = WC L σ ∧ r = some (.int (nI 1))) := by
  refine gM.of (cc := cX0_isInRange) (maxL := 2) (ret := (some .boolean)) (own := RX0) (by decide) rfl rfl (Nat.le_of_ble_eq_true rfl) rfl ?_
  intro p e s m args below meth c A Q hC hr hnm hQ
  have hin0 : ∀ w ∈ u_ws RX0 TX0 2, w ∈ wsX0_isInRange := by decide +kernel
  have hl9 : Cond.fieldLink RX0 9 "Rootrows$Row" "numbers" "[I" ∈ wsX0_isInRange := by decide +kernel
  have hl15 : Cond.fieldLink RX0 15 "Rootrows$Row" "size" "I" ∈ wsX0_isInRange := by decide +kernel
  refine gIconst (pc := 0) hC (v := (nI 0)) dX0_isInRange_0 (by decide +kernel) ?_
  refine gIstoreN (pc := 1) hC (lv' := [(1, .int (nI 0)), (0, .ref (la L k))]) dX0_isInRange_1 rfl (by decide) rfl ?_
  refine gLoc (lv' := [(1, .int (nI 0)), (0, .ref (la L k))]) [0, 1] rfl ?_
  refine loopUp (S := Unit) (fun i ζ => gG p l e rmX0_isInRange s m args below meth c D A 2 0 0 Q (WC L σ) 2 [(1, .int (nI i)), (0, .ref (la L k))] []) (fun i ζ => True) n ?_ ?_ 0 (()) (by omega) (trivial)
  · intro ζ hI
    revert hI; generalize ζ = u; intro hI
    refine gIloadN (pc := 2) hC dX0_isInRange_2 rfl 0 rfl ?_
    refine gAloadN (pc := 3) hC dX0_isInRange_3 rfl 1 rfl ?_
    refine cGetSize (pc := 4) hC (K := k) (v := (nI n)) hk hin0 hl15 (hF.1) dX0_isInRange_4 ?_
    refine gIcmp_ge (pc := 7) hC (tgt := 30) dX0_isInRange_7 (by decide) (fun hc1 => ?_) (fun hc1 => absurd (nI_le (Nat.le_refl _) (by omega)) hc1)
    refine gIconst (pc := 30) hC (v := (nI 1)) dX0_isInRange_30 (by decide +kernel) ?_
    exact gRetZ hC hQ hr (rfl) (Nat.le_of_ble_eq_true rfl) (Nat.le_of_ble_eq_true rfl) dX0_isInRange_31 (⟨rfl, rfl⟩)
  · intro i ζ hi hI ih
    revert hI; generalize ζ = u; intro hI
    refine gIloadN (pc := 2) hC dX0_isInRange_2 rfl 0 rfl ?_
    refine gAloadN (pc := 3) hC dX0_isInRange_3 rfl 1 rfl ?_
    refine cGetSize (pc := 4) hC (K := k) (v := (nI n)) hk hin0 hl15 (hF.1) dX0_isInRange_4 ?_
    refine gIcmp_ge (pc := 7) hC (tgt := 30) dX0_isInRange_7 (by decide) (fun hc2 => absurd hc2 (nI_ge hi (by omega))) (fun hc2 => ?_)
    refine gAloadN (pc := 10) hC dX0_isInRange_10 rfl 1 rfl ?_
    refine cGetNums (pc := 11) hC (K := k) hk hin0 hl9 dX0_isInRange_11 ?_
    refine gIloadN (pc := 14) hC dX0_isInRange_14 rfl 0 rfl ?_
    refine cNumLd (pc := 15) hC (K := k) (v := (nI (F i).val)) hk i (rfl) (by omega) (hF.2 _ (by omega)) dX0_isInRange_15 ?_
    refine gSN (pc := 16) (rest := []) hC (c_X1_isNumber l D _ _ _) ⟨va_cnB (host := "Rootrows") 1 hC.2.2.2.2.1 gX0_isInRange_X1_isNumber_n31 rfl rfl rfl (hC.2.2.2.2.2.2.2.1.1 _ (by decide +kernel)) (hC.2.2.2.2.1 (.initialized RX1) (by decide +kernel)) (by decide +kernel) ⟨Nat.le_of_ble_eq_true rfl, Nat.le_of_ble_eq_true rfl⟩, hC.2.2.2.2.1 (.static yX1_isNumber) (by decide +kernel), trivial⟩ rfl rfl (Nat.le_of_ble_eq_true rfl) dX0_isInRange_16 ⟨Nat.le_of_ble_eq_true rfl, Nat.le_of_ble_eq_true rfl⟩ (fun v w1 hp => ?_)
    obtain ⟨rfl, b1, rfl, hb1⟩ := hp
    refine gStk (st' := [.int b1]) (pc' := 19) rfl rfl ?_
    have hb2 : b1 = nI 1 := by
      rcases hb1 with h | h
      · exact h.1
      · exact absurd ⟨nI_pos (by have := (F i).isLt; omega), nI_ge (F i).isLt (by decide)⟩ h.2
    subst hb2
    refine gIf_ne (pc := 19) hC (tgt := 24) dX0_isInRange_19 (by decide) (fun hc3 => ?_) (fun hc3 => absurd hc3 (by decide))
    refine gIinc (pc := 24) hC (v := (nI (i + 1))) (lv' := [(1, .int (nI (i + 1))), (0, .ref (la L k))]) dX0_isInRange_24 (q := 0) rfl (nI_1 _) (by decide) rfl ?_
    refine gGoto (pc := 27) hC (tgt := 2) dX0_isInRange_27 (by decide) ?_
    refine gLoc (lv' := [(1, .int (nI (i + 1))), (0, .ref (la L k))]) [0, 1] rfl ?_
    exact ih (()) (trivial)

abbrev rmX0_comesAgain : Room := { frames := 1, cells := 0, slots := 0, locals := 21 }
set_option maxRecDepth 100000 in
set_option maxHeartbeats 4000000 in
theorem c_X0_comesAgain (l : Launch) (D : va_G) (L : cLay) (σ : cSt) (k n d : Nat) (F : Nat → Rg) (hk : k < 10) (hF : rowIs σ k n F) (hn : okN n) (hd : d ≤ 16) : gM l yX0_comesAgain wsX0_comesAgain rmX0_comesAgain D (cTy L) (WC L σ) [.ref (la L k), .int (nI d)] 0 0 (fun r w => w = WC L σ ∧ ∃ b : Int32, r = some (.int b) ∧ ((b = nI 1 ∧ ∀ j, j < n → F j = F (ix n ((j : Int) + d))) ∨ (b = nI 0 ∧ ¬ ∀ j, j < n → F j = F (ix n ((j : Int) + d))))) := by
  refine gM.of (cc := cX0_comesAgain) (maxL := 3) (ret := (some .boolean)) (own := RX0) (by decide) rfl rfl (Nat.le_of_ble_eq_true rfl) rfl ?_
  intro p e s m args below meth c A Q hC hr hnm hQ
  have hin0 : ∀ w ∈ u_ws RX0 TX0 2, w ∈ wsX0_comesAgain := by decide +kernel
  have hl9 : Cond.fieldLink RX0 9 "Rootrows$Row" "numbers" "[I" ∈ wsX0_comesAgain := by decide +kernel
  have hl15 : Cond.fieldLink RX0 15 "Rootrows$Row" "size" "I" ∈ wsX0_comesAgain := by decide +kernel
  have hnl := hn.le
  refine gIconst (pc := 0) hC (v := (nI 0)) dX0_comesAgain_0 (by decide +kernel) ?_
  refine gIstoreN (pc := 1) hC (lv' := [(2, .int (nI 0)), (0, .ref (la L k)), (1, .int (nI d))]) dX0_comesAgain_1 rfl (by decide) rfl ?_
  refine gLoc (lv' := [(2, .int (nI 0)), (0, .ref (la L k)), (1, .int (nI d))]) [0, 1, 2] rfl ?_
  refine loopUp (S := Unit) (fun i ζ => gG p l e rmX0_comesAgain s m args below meth c D A 3 0 0 Q (WC L σ) 2 [(2, .int (nI i)), (0, .ref (la L k)), (1, .int (nI d))] []) (fun i ζ => ∀ j, j < i → F j = F (ix n ((j : Int) + d))) n ?_ ?_ 0 (()) (by omega) (fun j hj => absurd hj (Nat.not_lt_zero j))
  · intro ζ hI
    revert hI; generalize ζ = u; intro hI
    refine gIloadN (pc := 2) hC dX0_comesAgain_2 rfl 0 rfl ?_
    refine gAloadN (pc := 3) hC dX0_comesAgain_3 rfl 1 rfl ?_
    refine cGetSize (pc := 4) hC (K := k) (v := (nI n)) hk hin0 hl15 (hF.1) dX0_comesAgain_4 ?_
    refine gIcmp_ge (pc := 7) hC (tgt := 34) dX0_comesAgain_7 (by decide) (fun hc1 => ?_) (fun hc1 => absurd (nI_le (Nat.le_refl _) (by omega)) hc1)
    refine gIconst (pc := 34) hC (v := (nI 1)) dX0_comesAgain_34 (by decide +kernel) ?_
    exact gRetZ hC hQ hr (rfl) (Nat.le_of_ble_eq_true rfl) (Nat.le_of_ble_eq_true rfl) dX0_comesAgain_35 (⟨rfl, nI 1, rfl, Or.inl ⟨rfl, hI⟩⟩)
  · intro i ζ hi hI ih
    revert hI; generalize ζ = u; intro hI
    refine gIloadN (pc := 2) hC dX0_comesAgain_2 rfl 0 rfl ?_
    refine gAloadN (pc := 3) hC dX0_comesAgain_3 rfl 1 rfl ?_
    refine cGetSize (pc := 4) hC (K := k) (v := (nI n)) hk hin0 hl15 (hF.1) dX0_comesAgain_4 ?_
    refine gIcmp_ge (pc := 7) hC (tgt := 34) dX0_comesAgain_7 (by decide) (fun hc2 => absurd hc2 (nI_ge hi (by omega))) (fun hc2 => ?_)
    refine gAloadN (pc := 10) hC dX0_comesAgain_10 rfl 1 rfl ?_
    refine cGetNums (pc := 11) hC (K := k) hk hin0 hl9 dX0_comesAgain_11 ?_
    refine gIloadN (pc := 14) hC dX0_comesAgain_14 rfl 0 rfl ?_
    refine cNumLd (pc := 15) hC (K := k) (v := (nI (F i).val)) hk i (rfl) (by omega) (hF.2 _ (by omega)) dX0_comesAgain_15 ?_
    refine gAloadN (pc := 16) hC dX0_comesAgain_16 rfl 1 rfl ?_
    refine gIloadN (pc := 17) hC dX0_comesAgain_17 rfl 0 rfl ?_
    refine gIloadN (pc := 18) hC dX0_comesAgain_18 rfl 2 rfl ?_
    refine gIadd (pc := 19) hC dX0_comesAgain_19 rfl ?_
    refine gV (pc := 20) (rest := [.int (nI (F i).val)]) (ci := 0) (q0 := 2 + 2 * k) hC (c_X0_roundAt l D L σ k n F _ ((i : Int) + d) hk hF hn (hz_add (by omega) (by omega))) rfl (wc_row hk) (cwV 1 hC.2.2.2.2.1 gX0_comesAgain_X0_roundAt rfl rfl rfl (by decide +kernel) ⟨Nat.le_of_ble_eq_true rfl, Nat.le_of_ble_eq_true rfl⟩) rfl rfl (Nat.le_of_ble_eq_true rfl) dX0_comesAgain_20 ⟨Nat.le_of_ble_eq_true rfl, Nat.le_of_ble_eq_true rfl⟩ (fun v w1 hp => ?_)
    obtain ⟨rfl, rfl⟩ := hp
    refine gStk (st' := [.int (nI (F (ix n ((i : Int) + d))).val), .int (nI (F i).val)]) (pc' := 23) rfl rfl ?_
    refine gIcmp_eq (pc := 23) hC (tgt := 28) dX0_comesAgain_23 (by decide) (fun hc3 => ?_) (fun hc3 => ?_)
    · skip
      refine gIinc (pc := 28) hC (v := (nI (i + 1))) (lv' := [(2, .int (nI (i + 1))), (0, .ref (la L k)), (1, .int (nI d))]) dX0_comesAgain_28 (q := 0) rfl (nI_1 _) (by decide) rfl ?_
      refine gGoto (pc := 31) hC (tgt := 2) dX0_comesAgain_31 (by decide) ?_
      refine gLoc (lv' := [(2, .int (nI (i + 1))), (0, .ref (la L k)), (1, .int (nI d))]) [0, 1, 2] rfl ?_
      exact ih (()) (lt_s hI (val_ne.mp hc3))
    · skip
      refine gIconst (pc := 26) hC (v := (nI 0)) dX0_comesAgain_26 (by decide +kernel) ?_
      exact gRetZ hC hQ hr (rfl) (Nat.le_of_ble_eq_true rfl) (Nat.le_of_ble_eq_true rfl) dX0_comesAgain_27 (⟨rfl, nI 0, rfl, Or.inr ⟨rfl, fun h => hc3 (val_ne.mpr (h i hi))⟩⟩)

abbrev rmX0_isZeroOffMultiples : Room := { frames := 0, cells := 0, slots := 0, locals := 0 }
set_option maxRecDepth 100000 in
set_option maxHeartbeats 4000000 in
theorem c_X0_isZeroOffMultiples (l : Launch) (D : va_G) (L : cLay) (σ : cSt) (k n d : Nat) (F : Nat → Rg) (hk : k < 10) (hF : rowIs σ k n F) (hn : okN n) (hd : d ≤ 16) : gM l yX0_isZeroOffMultiples wsX0_isZeroOffMultiples rmX0_isZeroOffMultiples D (cTy L) (WC L σ) [.ref (la L k), .int (nI d)] 0 0 (fun r w => w = WC L σ ∧ ∃ b : Int32, r = some (.int b) ∧ ((b = nI 1 ∧ ∀ j, j < n → F j ≠ 0 → ix n ((j * d : Nat) : Int) = 0) ∨ (b = nI 0 ∧ ¬ ∀ j, j < n → F j ≠ 0 → ix n ((j * d : Nat) : Int) = 0))) := by
  refine gM.of (cc := cX0_isZeroOffMultiples) (maxL := 3) (ret := (some .boolean)) (own := RX0) (by decide) rfl rfl (Nat.le_of_ble_eq_true rfl) rfl ?_
  intro p e s m args below meth c A Q hC hr hnm hQ
  have hin0 : ∀ w ∈ u_ws RX0 TX0 2, w ∈ wsX0_isZeroOffMultiples := by decide +kernel
  have hl9 : Cond.fieldLink RX0 9 "Rootrows$Row" "numbers" "[I" ∈ wsX0_isZeroOffMultiples := by decide +kernel
  have hl15 : Cond.fieldLink RX0 15 "Rootrows$Row" "size" "I" ∈ wsX0_isZeroOffMultiples := by decide +kernel
  have hnl := hn.le
  refine gIconst (pc := 0) hC (v := (nI 0)) dX0_isZeroOffMultiples_0 (by decide +kernel) ?_
  refine gIstoreN (pc := 1) hC (lv' := [(2, .int (nI 0)), (0, .ref (la L k)), (1, .int (nI d))]) dX0_isZeroOffMultiples_1 rfl (by decide) rfl ?_
  refine gLoc (lv' := [(2, .int (nI 0)), (0, .ref (la L k)), (1, .int (nI d))]) [0, 1, 2] rfl ?_
  refine loopUp (S := Unit) (fun i ζ => gG p l e rmX0_isZeroOffMultiples s m args below meth c D A 3 0 0 Q (WC L σ) 2 [(2, .int (nI i)), (0, .ref (la L k)), (1, .int (nI d))] []) (fun i ζ => ∀ j, j < i → F j ≠ 0 → ix n ((j * d : Nat) : Int) = 0) n ?_ ?_ 0 (()) (by omega) (fun j hj => absurd hj (Nat.not_lt_zero j))
  · intro ζ hI
    revert hI; generalize ζ = u; intro hI
    refine gIloadN (pc := 2) hC dX0_isZeroOffMultiples_2 rfl 0 rfl ?_
    refine gAloadN (pc := 3) hC dX0_isZeroOffMultiples_3 rfl 1 rfl ?_
    refine cGetSize (pc := 4) hC (K := k) (v := (nI n)) hk hin0 hl15 (hF.1) dX0_isZeroOffMultiples_4 ?_
    refine gIcmp_ge (pc := 7) hC (tgt := 40) dX0_isZeroOffMultiples_7 (by decide) (fun hc1 => ?_) (fun hc1 => absurd (nI_le (Nat.le_refl _) (by omega)) hc1)
    refine gIconst (pc := 40) hC (v := (nI 1)) dX0_isZeroOffMultiples_40 (by decide +kernel) ?_
    exact gRetZ hC hQ hr (rfl) (Nat.le_of_ble_eq_true rfl) (Nat.le_of_ble_eq_true rfl) dX0_isZeroOffMultiples_41 (⟨rfl, nI 1, rfl, Or.inl ⟨rfl, hI⟩⟩)
  · intro i ζ hi hI ih
    revert hI; generalize ζ = u; intro hI
    refine gIloadN (pc := 2) hC dX0_isZeroOffMultiples_2 rfl 0 rfl ?_
    refine gAloadN (pc := 3) hC dX0_isZeroOffMultiples_3 rfl 1 rfl ?_
    refine cGetSize (pc := 4) hC (K := k) (v := (nI n)) hk hin0 hl15 (hF.1) dX0_isZeroOffMultiples_4 ?_
    refine gIcmp_ge (pc := 7) hC (tgt := 40) dX0_isZeroOffMultiples_7 (by decide) (fun hc2 => absurd hc2 (nI_ge hi (by omega))) (fun hc2 => ?_)
    refine gAloadN (pc := 10) hC dX0_isZeroOffMultiples_10 rfl 1 rfl ?_
    refine cGetNums (pc := 11) hC (K := k) hk hin0 hl9 dX0_isZeroOffMultiples_11 ?_
    refine gIloadN (pc := 14) hC dX0_isZeroOffMultiples_14 rfl 0 rfl ?_
    refine cNumLd (pc := 15) hC (K := k) (v := (nI (F i).val)) hk i (rfl) (by omega) (hF.2 _ (by omega)) dX0_isZeroOffMultiples_15 ?_
    refine gIf_eq (pc := 16) hC (tgt := 34) dX0_isZeroOffMultiples_16 (by decide) (fun hc3 => ?_) (fun hc3 => ?_)
    · skip
      refine gIinc (pc := 34) hC (v := (nI (i + 1))) (lv' := [(2, .int (nI (i + 1))), (0, .ref (la L k)), (1, .int (nI d))]) dX0_isZeroOffMultiples_34 (q := 0) rfl (nI_1 _) (by decide) rfl ?_
      refine gGoto (pc := 37) hC (tgt := 2) dX0_isZeroOffMultiples_37 (by decide) ?_
      refine gLoc (lv' := [(2, .int (nI (i + 1))), (0, .ref (la L k)), (1, .int (nI d))]) [0, 1, 2] rfl ?_
      exact ih (()) (lt_s hI (fun h => absurd ((val0 _).mp hc3) h))
    · skip
      refine gIloadN (pc := 19) hC dX0_isZeroOffMultiples_19 rfl 0 rfl ?_
      refine gIloadN (pc := 20) hC dX0_isZeroOffMultiples_20 rfl 2 rfl ?_
      refine gImul (pc := 21) hC (v := (nI (i * d))) dX0_isZeroOffMultiples_21 (pk_mul _ _) ?_
      refine gAloadN (pc := 22) hC dX0_isZeroOffMultiples_22 rfl 1 rfl ?_
      refine cGetSize (pc := 23) hC (K := k) (v := (nI n)) hk hin0 hl15 (hF.1) dX0_isZeroOffMultiples_23 ?_
      refine gIconst (pc := 26) hC (v := (nI 1)) dX0_isZeroOffMultiples_26 (by decide +kernel) ?_
      refine gIsub (pc := 27) hC dX0_isZeroOffMultiples_27 rfl ?_
      refine gIand (pc := 28) hC (v := (nI (ix n ((i * d : Nat) : Int)))) dX0_isZeroOffMultiples_28 (j_ixN hn _ _ (by rw [nI_toInt (Nat.lt_of_le_of_lt (Nat.mul_le_mul (Nat.le_of_lt (Nat.lt_of_lt_of_le hi hnl)) hd) (by decide))])) ?_
      refine gIf_eq (pc := 29) hC (tgt := 34) dX0_isZeroOffMultiples_29 (by decide) (fun hc4 => ?_) (fun hc4 => ?_)
      · skip
        refine gIinc (pc := 34) hC (v := (nI (i + 1))) (lv' := [(2, .int (nI (i + 1))), (0, .ref (la L k)), (1, .int (nI d))]) dX0_isZeroOffMultiples_34 (q := 0) rfl (nI_1 _) (by decide) rfl ?_
        refine gGoto (pc := 37) hC (tgt := 2) dX0_isZeroOffMultiples_37 (by decide) ?_
        refine gLoc (lv' := [(2, .int (nI (i + 1))), (0, .ref (la L k)), (1, .int (nI d))]) [0, 1, 2] rfl ?_
        exact ih (()) (lt_s hI (fun _ => (nI_eq (Nat.lt_of_lt_of_le (ix_lt hn.pos _) (by omega)) (by decide)).mp hc4))
      · skip
        refine gIconst (pc := 32) hC (v := (nI 0)) dX0_isZeroOffMultiples_32 (by decide +kernel) ?_
        exact gRetZ hC hQ hr (rfl) (Nat.le_of_ble_eq_true rfl) (Nat.le_of_ble_eq_true rfl) dX0_isZeroOffMultiples_33 (⟨rfl, nI 0, rfl, Or.inr ⟨rfl, fun h => hc4 (by rw [h i hi (fun h9 => hc3 ((val0 _).mpr h9))]; rfl)⟩⟩)

abbrev rmX0_sumOfProducts : Room := { frames := 1, cells := 0, slots := 0, locals := 21 }
set_option maxRecDepth 100000 in
set_option maxHeartbeats 4000000 in
theorem c_X0_sumOfProducts (l : Launch) (D : va_G) (L : cLay) (σ : cSt) (k q n : Nat) (F G : Nat → Rg) (bw : Int32) (hk : k < 10) (hq : q < 10) (hF : rowIs σ k n F) (hG : rowIs σ q n G) (hn : okN n) : gM l yX0_sumOfProducts wsX0_sumOfProducts rmX0_sumOfProducts D (cTy L) (WC L σ) [.ref (la L k), .ref (la L q), .int bw] 0 0 (fun r w => w = WC L σ ∧ r = some (.int (nI (sg n (fun i => F i * G (ix n (if bw = 0 then (i : Int) else -(i : Int))))).val))) := by
  refine gM.of (cc := cX0_sumOfProducts) (maxL := 6) (ret := (some .int)) (own := RX0) (by decide) rfl rfl (Nat.le_of_ble_eq_true rfl) rfl ?_
  intro p e s m args below meth c A Q hC hr hnm hQ
  have hin0 : ∀ w ∈ u_ws RX0 TX0 2, w ∈ wsX0_sumOfProducts := by decide +kernel
  have hl9 : Cond.fieldLink RX0 9 "Rootrows$Row" "numbers" "[I" ∈ wsX0_sumOfProducts := by decide +kernel
  have hl15 : Cond.fieldLink RX0 15 "Rootrows$Row" "size" "I" ∈ wsX0_sumOfProducts := by decide +kernel
  have hnl := hn.le
  refine gLconst (pc := 0) hC (v := (lN 0)) dX0_sumOfProducts_0 (by decide +kernel) ?_
  refine gLstoreN (pc := 1) hC (lv' := [(3, .long (lN 0)), (0, .ref (la L k)), (1, .ref (la L q)), (2, .int bw)]) dX0_sumOfProducts_1 rfl (by decide) rfl ?_
  refine gIconst (pc := 2) hC (v := (nI 0)) dX0_sumOfProducts_2 (by decide +kernel) ?_
  refine gIstore (pc := 3) hC (lv' := [(5, .int (nI 0)), (3, .long (lN 0)), (0, .ref (la L k)), (1, .ref (la L q)), (2, .int bw)]) dX0_sumOfProducts_3 (by decide) rfl ?_
  refine gLoc (lv' := [(5, .int (nI 0)), (3, .long (lN 0)), (0, .ref (la L k)), (1, .ref (la L q)), (2, .int bw)]) [0, 1, 2, 3, 4] rfl ?_
  refine loopUp (S := Int64) (fun i ζ => gG p l e rmX0_sumOfProducts s m args below meth c D A 6 0 0 Q (WC L σ) 5 [(5, .int (nI i)), (3, .long ζ), (0, .ref (la L k)), (1, .ref (la L q)), (2, .int bw)] []) (fun i ζ => ζ = (lN (sn i (fun i => (F i).val * ((fun i => G (ix n (if bw = 0 then (i : Int) else -(i : Int)))) i).val)))) n ?_ ?_ 0 ((lN 0)) (by omega) (rfl)
  · intro ζ hI
    revert hI; generalize ζ = c1; intro hI
    refine gIload (pc := 5) hC dX0_sumOfProducts_5 0 rfl ?_
    refine gAloadN (pc := 7) hC dX0_sumOfProducts_7 rfl 2 rfl ?_
    refine cGetSize (pc := 8) hC (K := k) (v := (nI n)) hk hin0 hl15 (hF.1) dX0_sumOfProducts_8 ?_
    refine gIcmp_ge (pc := 11) hC (tgt := 49) dX0_sumOfProducts_11 (by decide) (fun hc1 => ?_) (fun hc1 => absurd (nI_le (Nat.le_refl _) (by omega)) hc1)
    refine gLloadN (pc := 49) hC dX0_sumOfProducts_49 rfl 1 rfl ?_
    refine gSN (pc := 50) (rest := []) hC (c_X1_reduced l D _ _ _ _ hI (sn_lt F (fun i => G (ix n (if bw = 0 then (i : Int) else -(i : Int)))) hnl)) ⟨va_cnB (host := "Rootrows") 1 hC.2.2.2.2.1 gX0_sumOfProducts_X1_reduced_n39 rfl rfl rfl (hC.2.2.2.2.2.2.2.1.1 _ (by decide +kernel)) (hC.2.2.2.2.1 (.initialized RX1) (by decide +kernel)) (by decide +kernel) ⟨Nat.le_of_ble_eq_true rfl, Nat.le_of_ble_eq_true rfl⟩, hC.2.2.2.2.1 (.static yX1_reduced) (by decide +kernel), trivial⟩ rfl rfl (Nat.le_of_ble_eq_true rfl) dX0_sumOfProducts_50 ⟨Nat.le_of_ble_eq_true rfl, Nat.le_of_ble_eq_true rfl⟩ (fun v w1 hp => ?_)
    obtain ⟨rfl, rfl⟩ := hp
    refine gStk (st' := [.int (nI (sn n (fun i => (F i).val * ((fun i => G (ix n (if bw = 0 then (i : Int) else -(i : Int)))) i).val) % 65537))]) (pc' := 53) rfl rfl ?_
    exact gRetI hC hQ hr (Nat.le_of_ble_eq_true rfl) (Nat.le_of_ble_eq_true rfl) dX0_sumOfProducts_53 (⟨rfl, by rw [sn_val F (fun i => G (ix n (if bw = 0 then (i : Int) else -(i : Int)))) n]⟩)
  · intro i ζ hi hI ih
    revert hI; generalize ζ = c1; intro hI
    refine gIload (pc := 5) hC dX0_sumOfProducts_5 0 rfl ?_
    refine gAloadN (pc := 7) hC dX0_sumOfProducts_7 rfl 2 rfl ?_
    refine cGetSize (pc := 8) hC (K := k) (v := (nI n)) hk hin0 hl15 (hF.1) dX0_sumOfProducts_8 ?_
    refine gIcmp_ge (pc := 11) hC (tgt := 49) dX0_sumOfProducts_11 (by decide) (fun hc2 => absurd hc2 (nI_ge hi (by omega))) (fun hc2 => ?_)
    refine gLloadN (pc := 14) hC dX0_sumOfProducts_14 rfl 1 rfl ?_
    refine gAloadN (pc := 15) hC dX0_sumOfProducts_15 rfl 2 rfl ?_
    refine cGetNums (pc := 16) hC (K := k) hk hin0 hl9 dX0_sumOfProducts_16 ?_
    refine gIload (pc := 19) hC dX0_sumOfProducts_19 0 rfl ?_
    refine cNumLd (pc := 21) hC (K := k) (v := (nI (F i).val)) hk i (rfl) (by omega) (hF.2 _ (by omega)) dX0_sumOfProducts_21 ?_
    refine gI2l (pc := 22) hC dX0_sumOfProducts_22 rfl ?_
    refine gAloadN (pc := 23) hC dX0_sumOfProducts_23 rfl 3 rfl ?_
    refine gIloadN (pc := 24) hC dX0_sumOfProducts_24 rfl 4 rfl ?_
    refine gIf_eq (pc := 25) hC (tgt := 34) dX0_sumOfProducts_25 (by decide) (fun hc3 => ?_) (fun hc3 => ?_)
    · skip
      refine gIload (pc := 34) hC dX0_sumOfProducts_34 0 rfl ?_
      refine gV (pc := 36) (rest := [.long ((nI (F i).val).toInt64), .long c1]) (ci := 0) (q0 := 2 + 2 * q) hC (c_X0_roundAt l D L σ q n G _ (i : Int) hq hG hn (hz_pos (by omega))) rfl (wc_row hq) (cwV 1 hC.2.2.2.2.1 gX0_sumOfProducts_X0_roundAt rfl rfl rfl (by decide +kernel) ⟨Nat.le_of_ble_eq_true rfl, Nat.le_of_ble_eq_true rfl⟩) rfl rfl (Nat.le_of_ble_eq_true rfl) dX0_sumOfProducts_36 ⟨Nat.le_of_ble_eq_true rfl, Nat.le_of_ble_eq_true rfl⟩ (fun v w1 hp => ?_)
      obtain ⟨rfl, rfl⟩ := hp
      refine gStk (st' := [.int (nI (G (ix n (i : Int))).val), .long ((nI (F i).val).toInt64), .long c1]) (pc' := 39) rfl rfl ?_
      refine gI2l (pc := 39) hC dX0_sumOfProducts_39 rfl ?_
      refine gLmul (pc := 40) hC dX0_sumOfProducts_40 rfl ?_
      refine gLadd (pc := 41) hC (v := (lN (sn (i + 1) (fun i => (F i).val * ((fun i => G (ix n (if bw = 0 then (i : Int) else -(i : Int)))) i).val)))) dX0_sumOfProducts_41 (by rw [hI]; exact sn_step F (fun i => G (ix n (if bw = 0 then (i : Int) else -(i : Int)))) i rfl (by show _ = nI (G (ix n (if bw = 0 then (i : Int) else -(i : Int)))).val; rw [if_pos hc3])) ?_
      refine gLstoreN (pc := 42) hC (lv' := [(3, .long (lN (sn (i + 1) (fun i => (F i).val * ((fun i => G (ix n (if bw = 0 then (i : Int) else -(i : Int)))) i).val)))), (5, .int (nI i)), (0, .ref (la L k)), (1, .ref (la L q)), (2, .int bw)]) dX0_sumOfProducts_42 rfl (by decide) rfl ?_
      refine gIinc (pc := 43) hC (v := (nI (i + 1))) (lv' := [(5, .int (nI (i + 1))), (3, .long (lN (sn (i + 1) (fun i => (F i).val * ((fun i => G (ix n (if bw = 0 then (i : Int) else -(i : Int)))) i).val)))), (0, .ref (la L k)), (1, .ref (la L q)), (2, .int bw)]) dX0_sumOfProducts_43 (q := 1) rfl (nI_1 _) (by decide) rfl ?_
      refine gGoto (pc := 46) hC (tgt := 5) dX0_sumOfProducts_46 (by decide) ?_
      refine gLoc (lv' := [(5, .int (nI (i + 1))), (3, .long (lN (sn (i + 1) (fun i => (F i).val * ((fun i => G (ix n (if bw = 0 then (i : Int) else -(i : Int)))) i).val)))), (0, .ref (la L k)), (1, .ref (la L q)), (2, .int bw)]) [0, 1, 2, 3, 4] rfl ?_
      exact ih ((lN (sn (i + 1) (fun i => (F i).val * ((fun i => G (ix n (if bw = 0 then (i : Int) else -(i : Int)))) i).val)))) (rfl)
    · skip
      refine gIload (pc := 28) hC dX0_sumOfProducts_28 0 rfl ?_
      refine gIneg (pc := 30) hC dX0_sumOfProducts_30 rfl ?_
      refine gGoto (pc := 31) hC (tgt := 36) dX0_sumOfProducts_31 (by decide) ?_
      refine gV (pc := 36) (rest := [.long ((nI (F i).val).toInt64), .long c1]) (ci := 0) (q0 := 2 + 2 * q) hC (c_X0_roundAt l D L σ q n G _ (-(i : Int)) hq hG hn (hz_neg (by omega))) rfl (wc_row hq) (cwV 1 hC.2.2.2.2.1 gX0_sumOfProducts_X0_roundAt rfl rfl rfl (by decide +kernel) ⟨Nat.le_of_ble_eq_true rfl, Nat.le_of_ble_eq_true rfl⟩) rfl rfl (Nat.le_of_ble_eq_true rfl) dX0_sumOfProducts_36 ⟨Nat.le_of_ble_eq_true rfl, Nat.le_of_ble_eq_true rfl⟩ (fun v w1 hp => ?_)
      obtain ⟨rfl, rfl⟩ := hp
      refine gStk (st' := [.int (nI (G (ix n (-(i : Int)))).val), .long ((nI (F i).val).toInt64), .long c1]) (pc' := 39) rfl rfl ?_
      refine gI2l (pc := 39) hC dX0_sumOfProducts_39 rfl ?_
      refine gLmul (pc := 40) hC dX0_sumOfProducts_40 rfl ?_
      refine gLadd (pc := 41) hC (v := (lN (sn (i + 1) (fun i => (F i).val * ((fun i => G (ix n (if bw = 0 then (i : Int) else -(i : Int)))) i).val)))) dX0_sumOfProducts_41 (by rw [hI]; exact sn_step F (fun i => G (ix n (if bw = 0 then (i : Int) else -(i : Int)))) i rfl (by show _ = nI (G (ix n (if bw = 0 then (i : Int) else -(i : Int)))).val; rw [if_neg hc3])) ?_
      refine gLstoreN (pc := 42) hC (lv' := [(3, .long (lN (sn (i + 1) (fun i => (F i).val * ((fun i => G (ix n (if bw = 0 then (i : Int) else -(i : Int)))) i).val)))), (5, .int (nI i)), (0, .ref (la L k)), (1, .ref (la L q)), (2, .int bw)]) dX0_sumOfProducts_42 rfl (by decide) rfl ?_
      refine gIinc (pc := 43) hC (v := (nI (i + 1))) (lv' := [(5, .int (nI (i + 1))), (3, .long (lN (sn (i + 1) (fun i => (F i).val * ((fun i => G (ix n (if bw = 0 then (i : Int) else -(i : Int)))) i).val)))), (0, .ref (la L k)), (1, .ref (la L q)), (2, .int bw)]) dX0_sumOfProducts_43 (q := 1) rfl (nI_1 _) (by decide) rfl ?_
      refine gGoto (pc := 46) hC (tgt := 5) dX0_sumOfProducts_46 (by decide) ?_
      refine gLoc (lv' := [(5, .int (nI (i + 1))), (3, .long (lN (sn (i + 1) (fun i => (F i).val * ((fun i => G (ix n (if bw = 0 then (i : Int) else -(i : Int)))) i).val)))), (0, .ref (la L k)), (1, .ref (la L q)), (2, .int bw)]) [0, 1, 2, 3, 4] rfl ?_
      exact ih ((lN (sn (i + 1) (fun i => (F i).val * ((fun i => G (ix n (if bw = 0 then (i : Int) else -(i : Int)))) i).val)))) (rfl)

abbrev rmX0_toldByDigits : Room := { frames := 0, cells := 0, slots := 0, locals := 0 }
set_option maxRecDepth 100000 in
set_option maxHeartbeats 4000000 in
theorem c_X0_toldByDigits (l : Launch) (D : va_G) (L : cLay) (σ : cSt) (k n : Nat) (F : Nat → Rg) (hk : k < 10) (hF : rowIs σ k n F) (hnl : n ≤ 16) : gM l yX0_toldByDigits wsX0_toldByDigits rmX0_toldByDigits D (cTy L) (WC L σ) [.ref (la L k)] 0 0 (fun r w => w = WC L σ ∧ r = some (.long (lN (sn n (fun i => (F i).val * 2 ^ (4 * i)))))) := by
  refine gM.of (cc := cX0_toldByDigits) (maxL := 4) (ret := (some .long)) (own := RX0) (by decide) rfl rfl (Nat.le_of_ble_eq_true rfl) rfl ?_
  intro p e s m args below meth c A Q hC hr hnm hQ
  have hin0 : ∀ w ∈ u_ws RX0 TX0 2, w ∈ wsX0_toldByDigits := by decide +kernel
  have hl9 : Cond.fieldLink RX0 9 "Rootrows$Row" "numbers" "[I" ∈ wsX0_toldByDigits := by decide +kernel
  have hl15 : Cond.fieldLink RX0 15 "Rootrows$Row" "size" "I" ∈ wsX0_toldByDigits := by decide +kernel
  refine gLconst (pc := 0) hC (v := (lN 0)) dX0_toldByDigits_0 (by decide +kernel) ?_
  refine gLstoreN (pc := 1) hC (lv' := [(1, .long (lN 0)), (0, .ref (la L k))]) dX0_toldByDigits_1 rfl (by decide) rfl ?_
  refine gIconst (pc := 2) hC (v := (nI 0)) dX0_toldByDigits_2 (by decide +kernel) ?_
  refine gIstoreN (pc := 3) hC (lv' := [(3, .int (nI 0)), (1, .long (lN 0)), (0, .ref (la L k))]) dX0_toldByDigits_3 rfl (by decide) rfl ?_
  refine gLoc (lv' := [(3, .int (nI 0)), (1, .long (lN 0)), (0, .ref (la L k))]) [0, 1, 2] rfl ?_
  refine loopUp (S := Int64) (fun i ζ => gG p l e rmX0_toldByDigits s m args below meth c D A 4 0 0 Q (WC L σ) 4 [(3, .int (nI i)), (1, .long ζ), (0, .ref (la L k))] []) (fun i ζ => ζ = (lN (sn i (fun i => (F i).val * 2 ^ (4 * i))))) n ?_ ?_ 0 ((lN 0)) (by omega) (rfl)
  · intro ζ hI
    revert hI; generalize ζ = c1; intro hI
    refine gIloadN (pc := 4) hC dX0_toldByDigits_4 rfl 0 rfl ?_
    refine gAloadN (pc := 5) hC dX0_toldByDigits_5 rfl 2 rfl ?_
    refine cGetSize (pc := 6) hC (K := k) (v := (nI n)) hk hin0 hl15 (hF.1) dX0_toldByDigits_6 ?_
    refine gIcmp_ge (pc := 9) hC (tgt := 32) dX0_toldByDigits_9 (by decide) (fun hc1 => ?_) (fun hc1 => absurd (nI_le (Nat.le_refl _) (by omega)) hc1)
    refine gLloadN (pc := 32) hC dX0_toldByDigits_32 rfl 1 rfl ?_
    exact gRetL hC hQ hr (Nat.le_of_ble_eq_true rfl) (Nat.le_of_ble_eq_true rfl) dX0_toldByDigits_33 (⟨rfl, by rw [hI]⟩)
  · intro i ζ hi hI ih
    revert hI; generalize ζ = c1; intro hI
    refine gIloadN (pc := 4) hC dX0_toldByDigits_4 rfl 0 rfl ?_
    refine gAloadN (pc := 5) hC dX0_toldByDigits_5 rfl 2 rfl ?_
    refine cGetSize (pc := 6) hC (K := k) (v := (nI n)) hk hin0 hl15 (hF.1) dX0_toldByDigits_6 ?_
    refine gIcmp_ge (pc := 9) hC (tgt := 32) dX0_toldByDigits_9 (by decide) (fun hc2 => absurd hc2 (nI_ge hi (by omega))) (fun hc2 => ?_)
    refine gLloadN (pc := 12) hC dX0_toldByDigits_12 rfl 1 rfl ?_
    refine gAloadN (pc := 13) hC dX0_toldByDigits_13 rfl 2 rfl ?_
    refine cGetNums (pc := 14) hC (K := k) hk hin0 hl9 dX0_toldByDigits_14 ?_
    refine gIloadN (pc := 17) hC dX0_toldByDigits_17 rfl 0 rfl ?_
    refine cNumLd (pc := 18) hC (K := k) (v := (nI (F i).val)) hk i (rfl) (by omega) (hF.2 _ (by omega)) dX0_toldByDigits_18 ?_
    refine gI2l (pc := 19) hC dX0_toldByDigits_19 rfl ?_
    refine gIconst (pc := 20) hC (v := (nI 4)) dX0_toldByDigits_20 (by decide +kernel) ?_
    refine gIloadN (pc := 21) hC dX0_toldByDigits_21 rfl 0 rfl ?_
    refine gImul (pc := 22) hC dX0_toldByDigits_22 rfl ?_
    refine gLshl (pc := 23) hC (v := (lN ((F i).val * 2 ^ (4 * i)))) dX0_toldByDigits_23 (j_shN (F i) (by omega)) ?_
    refine gLadd (pc := 24) hC (v := (lN (sn (i + 1) (fun i => (F i).val * 2 ^ (4 * i))))) dX0_toldByDigits_24 (by rw [hI, lN_add, sn_s]) ?_
    refine gLstoreN (pc := 25) hC (lv' := [(1, .long (lN (sn (i + 1) (fun i => (F i).val * 2 ^ (4 * i))))), (3, .int (nI i)), (0, .ref (la L k))]) dX0_toldByDigits_25 rfl (by decide) rfl ?_
    refine gIinc (pc := 26) hC (v := (nI (i + 1))) (lv' := [(3, .int (nI (i + 1))), (1, .long (lN (sn (i + 1) (fun i => (F i).val * 2 ^ (4 * i))))), (0, .ref (la L k))]) dX0_toldByDigits_26 (q := 1) rfl (nI_1 _) (by decide) rfl ?_
    refine gGoto (pc := 29) hC (tgt := 4) dX0_toldByDigits_29 (by decide) ?_
    refine gLoc (lv' := [(3, .int (nI (i + 1))), (1, .long (lN (sn (i + 1) (fun i => (F i).val * 2 ^ (4 * i))))), (0, .ref (la L k))]) [0, 1, 2] rfl ?_
    exact ih ((lN (sn (i + 1) (fun i => (F i).val * 2 ^ (4 * i))))) (rfl)
