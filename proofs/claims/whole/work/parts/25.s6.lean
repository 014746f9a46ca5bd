abbrev rmX1_sumsWithPowers : Room := { frames := 2, cells := 0, slots := 0, locals := 44 }
set_option maxRecDepth 100000 in
set_option maxHeartbeats 4000000 in
theorem c_X1_sumsWithPowers (l : Launch) (D : va_G) (L : cLay) (σ : cSt) (i0 k n o : Nat) (F : Nat → Rg) (x : Int32) (sgn : Int) (hk : k < 10) (hi0 : i0 < 10) (hne : i0 ≠ k) (hF : rowIs σ i0 n F) (hn : okN n) (ho : σ.1 = nI o) (hx : x.toInt = sgn) : gM l yX1_sumsWithPowers wsX1_sumsWithPowers rmX1_sumsWithPowers D (cTy L) (WC L σ) [.ref (lx L), .ref (la L i0), .int x, .ref (la L k)] 0 0 (fun r w => r = none ∧ ∃ σ', w = WC L σ' ∧ cSame σ σ' k ∧ rowIs σ' k n (ps n (un o n) sgn F)) := by
  refine gM.of (cc := cX1_sumsWithPowers) (maxL := 8) (ret := none) (own := RX1) (by decide) rfl rfl (Nat.le_of_ble_eq_true rfl) rfl ?_
  intro p e s m args below meth c A Q hC hr hnm hQ
  have hin0 : ∀ w ∈ u_ws RX0 TX0 2, w ∈ wsX1_sumsWithPowers := by decide +kernel
  have hl47 : Cond.fieldLink RX1 47 "Rootrows$Row" "size" "I" ∈ wsX1_sumsWithPowers := by decide +kernel
  have hl60 : Cond.fieldLink RX1 60 "Rootrows$Row" "numbers" "[I" ∈ wsX1_sumsWithPowers := by decide +kernel
  have hnl := hn.le
  refine gAloadN (pc := 0) hC dX1_sumsWithPowers_0 rfl 3 rfl ?_
  refine gAloadN (pc := 1) hC dX1_sumsWithPowers_1 rfl 1 rfl ?_
  refine cGetSize (pc := 2) hC (K := i0) (v := (nI n)) hi0 hin0 hl47 (hF.1) dX1_sumsWithPowers_2 ?_
  refine gV (pc := 5) (rest := []) (ci := 0) (q0 := 2 + 2 * k) hC (c_X0_clear l D L σ k hk (nI n)) rfl (wc_row hk) (cwV 1 hC.2.2.2.2.1 gX1_sumsWithPowers_X0_clear rfl rfl rfl (by decide +kernel) ⟨Nat.le_of_ble_eq_true rfl, Nat.le_of_ble_eq_true rfl⟩) rfl rfl (Nat.le_of_ble_eq_true rfl) dX1_sumsWithPowers_5 ⟨Nat.le_of_ble_eq_true rfl, Nat.le_of_ble_eq_true rfl⟩ (fun v w1 hp => ?_)
  obtain ⟨rfl, σ', rfl, h1, h2, h3⟩ := hp
  refine gStk (st' := []) (pc' := 8) rfl rfl ?_
  have hF1 := hF.kept h1 hne
  refine gIconst (pc := 8) hC (v := (nI 0)) dX1_sumsWithPowers_8 (by decide +kernel) ?_
  refine gIstore (pc := 9) hC (lv' := [(4, .int (nI 0)), (0, .ref (lx L)), (1, .ref (la L i0)), (2, .int x), (3, .ref (la L k))]) dX1_sumsWithPowers_9 (by decide) rfl ?_
  refine gLoc (lv' := [(4, .int (nI 0)), (0, .ref (lx L)), (1, .ref (la L i0)), (2, .int x), (3, .ref (la L k))]) [0, 1, 2, 3, 4] rfl ?_
  refine loopUp (S := cSt) (fun t ζ => gG p l e rmX1_sumsWithPowers s m args below meth c D A 8 0 0 Q (WC L ζ) 11 [(4, .int (nI t)), (0, .ref (lx L)), (1, .ref (la L i0)), (2, .int x), (3, .ref (la L k))] []) (fun t ζ => fillI σ' k n (ps n (un o n) sgn F) t ζ) n ?_ ?_ 0 (σ') (by omega) (⟨cSame.rf σ' k, h2, fun j hj => absurd hj (Nat.not_lt_zero j)⟩)
  · intro ζ hI
    revert hI; generalize ζ = σ1; intro hI
    refine gIload (pc := 11) hC dX1_sumsWithPowers_11 0 rfl ?_
    refine gAloadN (pc := 13) hC dX1_sumsWithPowers_13 rfl 2 rfl ?_
    refine cGetSize (pc := 14) hC (K := i0) (v := (nI n)) hi0 hin0 hl47 ((hF1.kept hI.1 hne).1) dX1_sumsWithPowers_14 ?_
    refine gIcmp_ge (pc := 17) hC (tgt := 89) dX1_sumsWithPowers_17 (by decide) (fun hc1 => ?_) (fun hc1 => absurd (nI_le (Nat.le_refl _) (by omega)) hc1)
    exact gRetV hC hQ hr (Nat.le_of_ble_eq_true rfl) (Nat.le_of_ble_eq_true rfl) dX1_sumsWithPowers_89 (⟨rfl, σ1, rfl, h1.tr hI.1, hI.is.2⟩)
  · intro t ζ hi hI ih
    revert hI; generalize ζ = σ1; intro hI
    have hF2 := hF1.kept hI.1 hne
    refine gIload (pc := 11) hC dX1_sumsWithPowers_11 0 rfl ?_
    refine gAloadN (pc := 13) hC dX1_sumsWithPowers_13 rfl 2 rfl ?_
    refine cGetSize (pc := 14) hC (K := i0) (v := (nI n)) hi0 hin0 hl47 (hF2.1) dX1_sumsWithPowers_14 ?_
    refine gIcmp_ge (pc := 17) hC (tgt := 89) dX1_sumsWithPowers_17 (by decide) (fun hc2 => absurd hc2 (nI_ge hi (by omega))) (fun hc2 => ?_)
    refine gLconst (pc := 20) hC (v := (lN 0)) dX1_sumsWithPowers_20 (by decide +kernel) ?_
    refine gLstore (pc := 21) hC (lv' := [(5, .long (lN 0)), (4, .int (nI t)), (0, .ref (lx L)), (1, .ref (la L i0)), (2, .int x), (3, .ref (la L k))]) dX1_sumsWithPowers_21 (by decide) rfl ?_
    refine gIconst (pc := 23) hC (v := (nI 0)) dX1_sumsWithPowers_23 (by decide +kernel) ?_
    refine gIstore (pc := 24) hC (lv' := [(7, .int (nI 0)), (5, .long (lN 0)), (4, .int (nI t)), (0, .ref (lx L)), (1, .ref (la L i0)), (2, .int x), (3, .ref (la L k))]) dX1_sumsWithPowers_24 (by decide) rfl ?_
    have ht := hi
    clear hi
    refine gLoc (lv' := [(7, .int (nI 0)), (5, .long (lN 0)), (0, .ref (lx L)), (1, .ref (la L i0)), (2, .int x), (3, .ref (la L k)), (4, .int (nI t))]) [0, 1, 3, 4, 5, 6, 2] rfl ?_
    refine loopUp (S := Int64) (fun i ζ => gG p l e rmX1_sumsWithPowers s m args below meth c D A 8 0 0 Q (WC L σ1) 26 [(7, .int (nI i)), (5, .long ζ), (0, .ref (lx L)), (1, .ref (la L i0)), (2, .int x), (3, .ref (la L k)), (4, .int (nI t))] []) (fun i ζ => ζ = (lN (sn i (fun i => (F i).val * ((fun i => pz (un o n * (sgn * i * t))) i).val)))) n ?_ ?_ 0 ((lN 0)) (by omega) (rfl)
    · intro ζ hJ
      revert hJ; generalize ζ = c1; intro hJ
      refine gIload (pc := 26) hC dX1_sumsWithPowers_26 0 rfl ?_
      refine gAloadN (pc := 28) hC dX1_sumsWithPowers_28 rfl 3 rfl ?_
      refine cGetSize (pc := 29) hC (K := i0) (v := (nI n)) hi0 hin0 hl47 (hF2.1) dX1_sumsWithPowers_29 ?_
      refine gIcmp_ge (pc := 32) hC (tgt := 71) dX1_sumsWithPowers_32 (by decide) (fun hc3 => ?_) (fun hc3 => absurd (nI_le (Nat.le_refl _) (by omega)) hc3)
      refine gAloadN (pc := 71) hC dX1_sumsWithPowers_71 rfl 5 rfl ?_
      refine cGetNums (pc := 72) hC (K := k) hk hin0 hl60 dX1_sumsWithPowers_72 ?_
      refine gIload (pc := 75) hC dX1_sumsWithPowers_75 6 rfl ?_
      refine gLload (pc := 77) hC dX1_sumsWithPowers_77 1 rfl ?_
      refine gS (pc := 79) (rest := [.int (nI t), .ref (lb L k)]) hC (c_X1_reduced l D _ _ _ _ hJ (sn_lt F (fun i => pz (un o n * (sgn * i * t))) hnl)) (va_cwS 1 hC.2.2.2.2.1 gX1_sumsWithPowers_X1_reduced rfl rfl rfl (by decide +kernel) ⟨Nat.le_of_ble_eq_true rfl, Nat.le_of_ble_eq_true rfl⟩) rfl rfl (Nat.le_of_ble_eq_true rfl) dX1_sumsWithPowers_79 ⟨Nat.le_of_ble_eq_true rfl, Nat.le_of_ble_eq_true rfl⟩ (fun v w1 hp => ?_)
      obtain ⟨rfl, rfl⟩ := hp
      refine gStk (st' := [.int (nI (sn n (fun i => (F i).val * ((fun i => pz (un o n * (sgn * i * t))) i).val) % 65537)), .int (nI t), .ref (lb L k)]) (pc' := 82) rfl rfl ?_
      obtain ⟨σ4, eσ4⟩ : ∃ ζ : cSt, ζ = cNm σ1 k (upd (σ1.2.2 k) t (nI (sn n (fun i => (F i).val * ((fun i => pz (un o n * (sgn * i * t))) i).val) % 65537))) := ⟨_, rfl⟩
      refine cNumSt (pc := 82) hC (K := k) hk t (rfl) (by omega) eσ4 dX1_sumsWithPowers_82 ?_
      refine gIinc (pc := 83) hC (v := (nI (t + 1))) (lv' := [(4, .int (nI (t + 1))), (7, .int (nI n)), (5, .long c1), (0, .ref (lx L)), (1, .ref (la L i0)), (2, .int x), (3, .ref (la L k))]) dX1_sumsWithPowers_83 (q := 6) rfl (nI_1 _) (by decide) rfl ?_
      refine gGoto (pc := 86) hC (tgt := 11) dX1_sumsWithPowers_86 (by decide) ?_
      refine gLoc (lv' := [(4, .int (nI (t + 1))), (0, .ref (lx L)), (1, .ref (la L i0)), (2, .int x), (3, .ref (la L k))]) [0, 3, 4, 5, 6] rfl ?_
      exact ih (σ4) (hI.step eσ4 (congrArg nI (sn_val F (fun i => pz (un o n * (sgn * i * t))) n)))
    · intro i ζ hi hJ jh
      revert hJ; generalize ζ = c1; intro hJ
      refine gIload (pc := 26) hC dX1_sumsWithPowers_26 0 rfl ?_
      refine gAloadN (pc := 28) hC dX1_sumsWithPowers_28 rfl 3 rfl ?_
      refine cGetSize (pc := 29) hC (K := i0) (v := (nI n)) hi0 hin0 hl47 (hF2.1) dX1_sumsWithPowers_29 ?_
      refine gIcmp_ge (pc := 32) hC (tgt := 71) dX1_sumsWithPowers_32 (by decide) (fun hc5 => absurd hc5 (nI_ge hi (by omega))) (fun hc5 => ?_)
      refine gLload (pc := 35) hC dX1_sumsWithPowers_35 1 rfl ?_
      refine gAloadN (pc := 37) hC dX1_sumsWithPowers_37 rfl 3 rfl ?_
      refine cGetNums (pc := 38) hC (K := i0) hi0 hin0 hl60 dX1_sumsWithPowers_38 ?_
      refine gIload (pc := 41) hC dX1_sumsWithPowers_41 0 rfl ?_
      refine cNumLd (pc := 43) hC (K := i0) (v := (nI (F i).val)) hi0 i (rfl) (by omega) (hF2.2 _ (by omega)) dX1_sumsWithPowers_43 ?_
      refine gI2l (pc := 44) hC dX1_sumsWithPowers_44 rfl ?_
      refine gAloadN (pc := 45) hC dX1_sumsWithPowers_45 rfl 2 rfl ?_
      refine gAloadN (pc := 46) hC dX1_sumsWithPowers_46 rfl 3 rfl ?_
      refine cGetSize (pc := 47) hC (K := i0) (v := (nI n)) hi0 hin0 hl47 (hF2.1) dX1_sumsWithPowers_47 ?_
      refine gIloadN (pc := 50) hC dX1_sumsWithPowers_50 rfl 4 rfl ?_
      refine gIload (pc := 51) hC dX1_sumsWithPowers_51 0 rfl ?_
      refine gImul (pc := 53) hC dX1_sumsWithPowers_53 rfl ?_
      refine gIload (pc := 54) hC dX1_sumsWithPowers_54 6 rfl ?_
      refine gImul (pc := 56) hC dX1_sumsWithPowers_56 rfl ?_
      refine gV (pc := 57) (rest := [.long ((nI (F i).val).toInt64), .long c1]) (ci := 1) (q0 := 0) hC (c_X1_rootTo l D L σ1 n o _ (sgn * i * t) hn (hI.1.1.trans (h1.1.trans ho)) (hz_mul (hz_mul (by rw [hx]) (hz_pos (by omega))) (hz_pos (by omega)))) rfl rfl (cwV 2 hC.2.2.2.2.1 gX1_sumsWithPowers_X1_rootTo rfl rfl rfl (by decide +kernel) ⟨Nat.le_of_ble_eq_true rfl, Nat.le_of_ble_eq_true rfl⟩) rfl rfl (Nat.le_of_ble_eq_true rfl) dX1_sumsWithPowers_57 ⟨Nat.le_of_ble_eq_true rfl, Nat.le_of_ble_eq_true rfl⟩ (fun v w1 hp => ?_)
      obtain ⟨rfl, rfl⟩ := hp
      refine gStk (st' := [.int (nI (pz (un o n * (sgn * i * t))).val), .long ((nI (F i).val).toInt64), .long c1]) (pc' := 60) rfl rfl ?_
      refine gI2l (pc := 60) hC dX1_sumsWithPowers_60 rfl ?_
      refine gLmul (pc := 61) hC dX1_sumsWithPowers_61 rfl ?_
      refine gLadd (pc := 62) hC (v := (lN (sn (i + 1) (fun i => (F i).val * ((fun i => pz (un o n * (sgn * i * t))) i).val)))) dX1_sumsWithPowers_62 (by rw [hJ]; exact sn_step F (fun i => pz (un o n * (sgn * i * t))) i rfl rfl) ?_
      refine gLstore (pc := 63) hC (lv' := [(5, .long (lN (sn (i + 1) (fun i => (F i).val * ((fun i => pz (un o n * (sgn * i * t))) i).val)))), (7, .int (nI i)), (0, .ref (lx L)), (1, .ref (la L i0)), (2, .int x), (3, .ref (la L k)), (4, .int (nI t))]) dX1_sumsWithPowers_63 (by decide) rfl ?_
      refine gIinc (pc := 65) hC (v := (nI (i + 1))) (lv' := [(7, .int (nI (i + 1))), (5, .long (lN (sn (i + 1) (fun i => (F i).val * ((fun i => pz (un o n * (sgn * i * t))) i).val)))), (0, .ref (lx L)), (1, .ref (la L i0)), (2, .int x), (3, .ref (la L k)), (4, .int (nI t))]) dX1_sumsWithPowers_65 (q := 1) rfl (nI_1 _) (by decide) rfl ?_
      refine gGoto (pc := 68) hC (tgt := 26) dX1_sumsWithPowers_68 (by decide) ?_
      refine gLoc (lv' := [(7, .int (nI (i + 1))), (5, .long (lN (sn (i + 1) (fun i => (F i).val * ((fun i => pz (un o n * (sgn * i * t))) i).val)))), (0, .ref (lx L)), (1, .ref (la L i0)), (2, .int x), (3, .ref (la L k)), (4, .int (nI t))]) [0, 1, 2, 3, 4, 5, 6] rfl ?_
      exact jh ((lN (sn (i + 1) (fun i => (F i).val * ((fun i => pz (un o n * (sgn * i * t))) i).val)))) (rfl)

abbrev rmX1_plainValues : Room := { frames := 3, cells := 0, slots := 0, locals := 71 }
set_option maxRecDepth 100000 in
set_option maxHeartbeats 4000000 in
theorem c_X1_plainValues (l : Launch) (D : va_G) (L : cLay) (σ : cSt) (i0 k n o : Nat) (F : Nat → Rg) (hk : k < 10) (hi0 : i0 < 10) (hne : i0 ≠ k) (hF : rowIs σ i0 n F) (hn : okN n) (ho : σ.1 = nI o) : gM l yX1_plainValues wsX1_plainValues rmX1_plainValues D (cTy L) (WC L σ) [.ref (lx L), .ref (la L i0), .ref (la L k)] 0 0 (fun r w => r = none ∧ ∃ σ', w = WC L σ' ∧ cSame σ σ' k ∧ rowIs σ' k n (ps n (un o n) 1 F)) := by
  refine gM.of (cc := cX1_plainValues) (maxL := 3) (ret := none) (own := RX1) (by decide) rfl rfl (Nat.le_of_ble_eq_true rfl) rfl ?_
  intro p e s m args below meth c A Q hC hr hnm hQ
  refine gAloadN (pc := 0) hC dX1_plainValues_0 rfl 0 rfl ?_
  refine gAloadN (pc := 1) hC dX1_plainValues_1 rfl 1 rfl ?_
  refine gIconst (pc := 2) hC (v := (nI 1)) dX1_plainValues_2 (by decide +kernel) ?_
  refine gAloadN (pc := 3) hC dX1_plainValues_3 rfl 2 rfl ?_
  refine gV (pc := 4) (rest := []) (ci := 1) (q0 := 0) hC (c_X1_sumsWithPowers l D L σ i0 k n o F (nI 1) 1 hk hi0 hne hF hn ho rfl) rfl rfl (cwV 3 hC.2.2.2.2.1 gX1_plainValues_X1_sumsWithPowers rfl rfl rfl (by decide +kernel) ⟨Nat.le_of_ble_eq_true rfl, Nat.le_of_ble_eq_true rfl⟩) rfl rfl (Nat.le_of_ble_eq_true rfl) dX1_plainValues_4 ⟨Nat.le_of_ble_eq_true rfl, Nat.le_of_ble_eq_true rfl⟩ (fun v w1 hp => ?_)
  obtain ⟨rfl, σ', rfl, h1, h2⟩ := hp
  refine gStk (st' := []) (pc' := 7) rfl rfl ?_
  exact gRetV hC hQ hr (Nat.le_of_ble_eq_true rfl) (Nat.le_of_ble_eq_true rfl) dX1_plainValues_7 (⟨rfl, σ', rfl, h1, h2⟩)

abbrev rmX1_backRow : Room := { frames := 3, cells := 0, slots := 0, locals := 71 }
set_option maxRecDepth 100000 in
set_option maxHeartbeats 4000000 in
theorem c_X1_backRow (l : Launch) (D : va_G) (L : cLay) (σ : cSt) (i0 k n o : Nat) (F : Nat → Rg) (hk : k < 10) (hi0 : i0 < 10) (hne : i0 ≠ k) (hF : rowIs σ i0 n F) (hn : okN n) (ho : σ.1 = nI o) : gM l yX1_backRow wsX1_backRow rmX1_backRow D (cTy L) (WC L σ) [.ref (lx L), .ref (la L i0), .ref (la L k)] 0 0 (fun r w => r = none ∧ ∃ σ', w = WC L σ' ∧ cSame σ σ' k ∧ rowIs σ' k n (bk n (un o n) F)) := by
  refine gM.of (cc := cX1_backRow) (maxL := 3) (ret := none) (own := RX1) (by decide) rfl rfl (Nat.le_of_ble_eq_true rfl) rfl ?_
  intro p e s m args below meth c A Q hC hr hnm hQ
  have hin0 : ∀ w ∈ u_ws RX0 TX0 2, w ∈ wsX1_backRow := by decide +kernel
  have hl47 : Cond.fieldLink RX1 47 "Rootrows$Row" "size" "I" ∈ wsX1_backRow := by decide +kernel
  have hnl := hn.le
  refine gAloadN (pc := 0) hC dX1_backRow_0 rfl 0 rfl ?_
  refine gAloadN (pc := 1) hC dX1_backRow_1 rfl 1 rfl ?_
  refine gIconst (pc := 2) hC (v := (-1)) dX1_backRow_2 (by decide +kernel) ?_
  refine gAloadN (pc := 3) hC dX1_backRow_3 rfl 2 rfl ?_
  refine gV (pc := 4) (rest := []) (ci := 1) (q0 := 0) hC (c_X1_sumsWithPowers l D L σ i0 k n o F (-1) (-1) hk hi0 hne hF hn ho (by decide +kernel)) rfl rfl (cwV 3 hC.2.2.2.2.1 gX1_backRow_X1_sumsWithPowers rfl rfl rfl (by decide +kernel) ⟨Nat.le_of_ble_eq_true rfl, Nat.le_of_ble_eq_true rfl⟩) rfl rfl (Nat.le_of_ble_eq_true rfl) dX1_backRow_4 ⟨Nat.le_of_ble_eq_true rfl, Nat.le_of_ble_eq_true rfl⟩ (fun v w1 hp => ?_)
  obtain ⟨rfl, σ', rfl, h1, h2⟩ := hp
  refine gStk (st' := []) (pc' := 7) rfl rfl ?_
  refine gAloadN (pc := 7) hC dX1_backRow_7 rfl 2 rfl ?_
  refine gAloadN (pc := 8) hC dX1_backRow_8 rfl 2 rfl ?_
  refine gAloadN (pc := 9) hC dX1_backRow_9 rfl 1 rfl ?_
  refine cGetSize (pc := 10) hC (K := i0) (v := (nI n)) hi0 hin0 hl47 ((hF.kept h1 hne).1) dX1_backRow_10 ?_
  refine gS (pc := 13) (rest := [.ref (la L k), .ref (la L k)]) hC (c_X1_inverseOf l D _ _ _ (nR n) (by rw [nR_val (by omega)])) (va_cwS 1 hC.2.2.2.2.1 gX1_backRow_X1_inverseOf rfl rfl rfl (by decide +kernel) ⟨Nat.le_of_ble_eq_true rfl, Nat.le_of_ble_eq_true rfl⟩) rfl rfl (Nat.le_of_ble_eq_true rfl) dX1_backRow_13 ⟨Nat.le_of_ble_eq_true rfl, Nat.le_of_ble_eq_true rfl⟩ (fun v w1 hp => ?_)
  obtain ⟨rfl, rfl⟩ := hp
  refine gStk (st' := [.int (nI (iv (nR n)).val), .ref (la L k), .ref (la L k)]) (pc' := 16) rfl rfl ?_
  refine gV (pc := 16) (rest := []) (ci := 0) (q0 := 2 + 2 * k) hC (c_X0_becomeScaled l D L σ' k k n (ps n (un o n) (-1) F) _ (iv (nR n)) hk hk h2 hn rfl) rfl (wc_row hk) (cwV 2 hC.2.2.2.2.1 gX1_backRow_X0_becomeScaled rfl rfl rfl (by decide +kernel) ⟨Nat.le_of_ble_eq_true rfl, Nat.le_of_ble_eq_true rfl⟩) rfl rfl (Nat.le_of_ble_eq_true rfl) dX1_backRow_16 ⟨Nat.le_of_ble_eq_true rfl, Nat.le_of_ble_eq_true rfl⟩ (fun v w1 hp => ?_)
  obtain ⟨rfl, σ2, rfl, h3, h4⟩ := hp
  refine gStk (st' := []) (pc' := 19) rfl rfl ?_
  exact gRetV hC hQ hr (Nat.le_of_ble_eq_true rfl) (Nat.le_of_ble_eq_true rfl) dX1_backRow_19 (⟨rfl, σ2, rfl, h1.tr h3, h4⟩)

abbrev rmX1_weighedRow : Room := { frames := 2, cells := 0, slots := 0, locals := 44 }
set_option maxRecDepth 100000 in
set_option maxHeartbeats 4000000 in
theorem c_X1_weighedRow (l : Launch) (D : va_G) (L : cLay) (σ : cSt) (i0 k n o : Nat) (F : Nat → Rg) (y : Int32) (hk : k < 10) (hi0 : i0 < 10) (hne : i0 ≠ k) (hF : rowIs σ i0 n F) (hn : okN n) (ho : σ.1 = nI o) : gM l yX1_weighedRow wsX1_weighedRow rmX1_weighedRow D (cTy L) (WC L σ) [.ref (lx L), .ref (la L i0), .int y, .ref (la L k)] 0 0 (fun r w => r = none ∧ ∃ σ', w = WC L σ' ∧ cSame σ σ' k ∧ rowIs σ' k n (fun i => F i * pz (un o n * (y.toInt * i)))) := by
  refine gM.of (cc := cX1_weighedRow) (maxL := 5) (ret := none) (own := RX1) (by decide) rfl rfl (Nat.le_of_ble_eq_true rfl) rfl ?_
  intro p e s m args below meth c A Q hC hr hnm hQ
  have hin0 : ∀ w ∈ u_ws RX0 TX0 2, w ∈ wsX1_weighedRow := by decide +kernel
  have hl47 : Cond.fieldLink RX1 47 "Rootrows$Row" "size" "I" ∈ wsX1_weighedRow := by decide +kernel
  have hl60 : Cond.fieldLink RX1 60 "Rootrows$Row" "numbers" "[I" ∈ wsX1_weighedRow := by decide +kernel
  have hnl := hn.le
  refine gAloadN (pc := 0) hC dX1_weighedRow_0 rfl 3 rfl ?_
  refine gAloadN (pc := 1) hC dX1_weighedRow_1 rfl 1 rfl ?_
  refine cGetSize (pc := 2) hC (K := i0) (v := (nI n)) hi0 hin0 hl47 (hF.1) dX1_weighedRow_2 ?_
  refine gV (pc := 5) (rest := []) (ci := 0) (q0 := 2 + 2 * k) hC (c_X0_clear l D L σ k hk (nI n)) rfl (wc_row hk) (cwV 1 hC.2.2.2.2.1 gX1_weighedRow_X0_clear rfl rfl rfl (by decide +kernel) ⟨Nat.le_of_ble_eq_true rfl, Nat.le_of_ble_eq_true rfl⟩) rfl rfl (Nat.le_of_ble_eq_true rfl) dX1_weighedRow_5 ⟨Nat.le_of_ble_eq_true rfl, Nat.le_of_ble_eq_true rfl⟩ (fun v w1 hp => ?_)
  obtain ⟨rfl, σ', rfl, h1, h2, h3⟩ := hp
  refine gStk (st' := []) (pc' := 8) rfl rfl ?_
  have hF1 := hF.kept h1 hne
  refine gIconst (pc := 8) hC (v := (nI 0)) dX1_weighedRow_8 (by decide +kernel) ?_
  refine gIstore (pc := 9) hC (lv' := [(4, .int (nI 0)), (0, .ref (lx L)), (1, .ref (la L i0)), (2, .int y), (3, .ref (la L k))]) dX1_weighedRow_9 (by decide) rfl ?_
  refine gLoc (lv' := [(4, .int (nI 0)), (0, .ref (lx L)), (1, .ref (la L i0)), (2, .int y), (3, .ref (la L k))]) [0, 1, 2, 3, 4] rfl ?_
  refine loopUp (S := cSt) (fun i ζ => gG p l e rmX1_weighedRow s m args below meth c D A 5 0 0 Q (WC L ζ) 11 [(4, .int (nI i)), (0, .ref (lx L)), (1, .ref (la L i0)), (2, .int y), (3, .ref (la L k))] []) (fun i ζ => fillI σ' k n (fun i => F i * pz (un o n * (y.toInt * i))) i ζ) n ?_ ?_ 0 (σ') (by omega) (⟨cSame.rf σ' k, h2, fun j hj => absurd hj (Nat.not_lt_zero j)⟩)
  · intro ζ hI
    revert hI; generalize ζ = σ1; intro hI
    refine gIload (pc := 11) hC dX1_weighedRow_11 0 rfl ?_
    refine gAloadN (pc := 13) hC dX1_weighedRow_13 rfl 2 rfl ?_
    refine cGetSize (pc := 14) hC (K := i0) (v := (nI n)) hi0 hin0 hl47 ((hF1.kept hI.1 hne).1) dX1_weighedRow_14 ?_
    refine gIcmp_ge (pc := 17) hC (tgt := 55) dX1_weighedRow_17 (by decide) (fun hc1 => ?_) (fun hc1 => absurd (nI_le (Nat.le_refl _) (by omega)) hc1)
    exact gRetV hC hQ hr (Nat.le_of_ble_eq_true rfl) (Nat.le_of_ble_eq_true rfl) dX1_weighedRow_55 (⟨rfl, σ1, rfl, h1.tr hI.1, hI.is.2⟩)
  · intro i ζ hi hI ih
    revert hI; generalize ζ = σ1; intro hI
    refine gIload (pc := 11) hC dX1_weighedRow_11 0 rfl ?_
    refine gAloadN (pc := 13) hC dX1_weighedRow_13 rfl 2 rfl ?_
    refine cGetSize (pc := 14) hC (K := i0) (v := (nI n)) hi0 hin0 hl47 ((hF1.kept hI.1 hne).1) dX1_weighedRow_14 ?_
    refine gIcmp_ge (pc := 17) hC (tgt := 55) dX1_weighedRow_17 (by decide) (fun hc2 => absurd hc2 (nI_ge hi (by omega))) (fun hc2 => ?_)
    refine gAloadN (pc := 20) hC dX1_weighedRow_20 rfl 4 rfl ?_
    refine cGetNums (pc := 21) hC (K := k) hk hin0 hl60 dX1_weighedRow_21 ?_
    refine gIload (pc := 24) hC dX1_weighedRow_24 0 rfl ?_
    refine gAloadN (pc := 26) hC dX1_weighedRow_26 rfl 2 rfl ?_
    refine cGetNums (pc := 27) hC (K := i0) hi0 hin0 hl60 dX1_weighedRow_27 ?_
    refine gIload (pc := 30) hC dX1_weighedRow_30 0 rfl ?_
    refine cNumLd (pc := 32) hC (K := i0) (v := (nI (F i).val)) hi0 i (rfl) (by omega) ((hF1.kept hI.1 hne).2 _ (by omega)) dX1_weighedRow_32 ?_
    refine gAloadN (pc := 33) hC dX1_weighedRow_33 rfl 1 rfl ?_
    refine gAloadN (pc := 34) hC dX1_weighedRow_34 rfl 2 rfl ?_
    refine cGetSize (pc := 35) hC (K := i0) (v := (nI n)) hi0 hin0 hl47 ((hF1.kept hI.1 hne).1) dX1_weighedRow_35 ?_
    refine gIloadN (pc := 38) hC dX1_weighedRow_38 rfl 3 rfl ?_
    refine gIload (pc := 39) hC dX1_weighedRow_39 0 rfl ?_
    refine gImul (pc := 41) hC dX1_weighedRow_41 rfl ?_
    refine gV (pc := 42) (rest := [.int (nI (F i).val), .int (nI i), .ref (lb L k)]) (ci := 1) (q0 := 0) hC (c_X1_rootTo l D L σ1 n o _ (y.toInt * i) hn (hI.1.1.trans (h1.1.trans ho)) (hz_mul rfl (hz_pos (by omega)))) rfl rfl (cwV 2 hC.2.2.2.2.1 gX1_weighedRow_X1_rootTo rfl rfl rfl (by decide +kernel) ⟨Nat.le_of_ble_eq_true rfl, Nat.le_of_ble_eq_true rfl⟩) rfl rfl (Nat.le_of_ble_eq_true rfl) dX1_weighedRow_42 ⟨Nat.le_of_ble_eq_true rfl, Nat.le_of_ble_eq_true rfl⟩ (fun v w1 hp => ?_)
    obtain ⟨rfl, rfl⟩ := hp
    refine gStk (st' := [.int (nI (pz (un o n * (y.toInt * i))).val), .int (nI (F i).val), .int (nI i), .ref (lb L k)]) (pc' := 45) rfl rfl ?_
    refine gS (pc := 45) (rest := [.int (nI i), .ref (lb L k)]) hC (c_X1_multiplied l D _ _ _ _ (F i) (pz (un o n * (y.toInt * i))) rfl rfl) (va_cwS 2 hC.2.2.2.2.1 gX1_weighedRow_X1_multiplied rfl rfl rfl (by decide +kernel) ⟨Nat.le_of_ble_eq_true rfl, Nat.le_of_ble_eq_true rfl⟩) rfl rfl (Nat.le_of_ble_eq_true rfl) dX1_weighedRow_45 ⟨Nat.le_of_ble_eq_true rfl, Nat.le_of_ble_eq_true rfl⟩ (fun v w1 hp => ?_)
    obtain ⟨rfl, rfl⟩ := hp
    refine gStk (st' := [.int (nI ((fun i => F i * pz (un o n * (y.toInt * i))) i).val), .int (nI i), .ref (lb L k)]) (pc' := 48) rfl rfl ?_
    obtain ⟨σ3, eσ3⟩ : ∃ ζ : cSt, ζ = cNm σ1 k (upd (σ1.2.2 k) i (nI ((fun i => F i * pz (un o n * (y.toInt * i))) i).val)) := ⟨_, rfl⟩
    refine cNumSt (pc := 48) hC (K := k) hk i (rfl) (by omega) eσ3 dX1_weighedRow_48 ?_
    refine gIinc (pc := 49) hC (v := (nI (i + 1))) (lv' := [(4, .int (nI (i + 1))), (0, .ref (lx L)), (1, .ref (la L i0)), (2, .int y), (3, .ref (la L k))]) dX1_weighedRow_49 (q := 0) rfl (nI_1 _) (by decide) rfl ?_
    refine gGoto (pc := 52) hC (tgt := 11) dX1_weighedRow_52 (by decide) ?_
    refine gLoc (lv' := [(4, .int (nI (i + 1))), (0, .ref (lx L)), (1, .ref (la L i0)), (2, .int y), (3, .ref (la L k))]) [0, 1, 2, 3, 4] rfl ?_
    exact ih (σ3) (hI.step eσ3 rfl)

abbrev rmX1_inverseByValues : Room := { frames := 4, cells := 0, slots := 0, locals := 93 }
set_option maxRecDepth 100000 in
set_option maxHeartbeats 4000000 in
theorem c_X1_inverseByValues (l : Launch) (D : va_G) (L : cLay) (σ : cSt) (i0 k n o : Nat) (F : Nat → Rg) (hk : k < 10) (hi0 : i0 < 10) (hne : i0 ≠ k) (hF : rowIs σ i0 n F) (hn : okN n) (ho : σ.1 = nI o) (hn6 : i0 ≠ 6) (hk6 : k ≠ 6) : gM l yX1_inverseByValues wsX1_inverseByValues rmX1_inverseByValues D (cTy L) (WC L σ) [.ref (lx L), .ref (la L i0), .ref (la L k)] 0 0 (fun r w => r = none ∧ ∃ σ', w = WC L σ' ∧ (σ'.1 = σ.1 ∧ ∀ q, q ≠ 6 → q ≠ k → σ'.2.1 q = σ.2.1 q ∧ σ'.2.2 q = σ.2.2 q) ∧ rowIs σ' k n (bk n (un o n) (fun i => iv (F i)))) := by
  refine gM.of (cc := cX1_inverseByValues) (maxL := 4) (ret := none) (own := RX1) (by decide) rfl rfl (Nat.le_of_ble_eq_true rfl) rfl ?_
  intro p e s m args below meth c A Q hC hr hnm hQ
  have hin0 : ∀ w ∈ u_ws RX0 TX0 2, w ∈ wsX1_inverseByValues := by decide +kernel
  have hin1 : ∀ w ∈ u_ws RX1 TX1 8, w ∈ wsX1_inverseByValues := by decide +kernel
  have hl23 : Cond.fieldLink RX1 23 "Rootrows" "mixed" "LRootrows$Row;" ∈ wsX1_inverseByValues := by decide +kernel
  have hl47 : Cond.fieldLink RX1 47 "Rootrows$Row" "size" "I" ∈ wsX1_inverseByValues := by decide +kernel
  have hl60 : Cond.fieldLink RX1 60 "Rootrows$Row" "numbers" "[I" ∈ wsX1_inverseByValues := by decide +kernel
  have hnl := hn.le
  refine gAloadN (pc := 0) hC dX1_inverseByValues_0 rfl 0 rfl ?_
  refine cGetRow (pc := 1) hC 3 (by decide) rfl hin1 hl23 dX1_inverseByValues_1 ?_
  refine gAloadN (pc := 4) hC dX1_inverseByValues_4 rfl 1 rfl ?_
  refine cGetSize (pc := 5) hC (K := i0) (v := (nI n)) hi0 hin0 hl47 (hF.1) dX1_inverseByValues_5 ?_
  refine gV (pc := 8) (rest := []) (ci := 0) (q0 := 2 + 2 * 6) hC (c_X0_clear l D L σ 6 (by decide) (nI n)) rfl (wc_row (by decide)) (cwV 1 hC.2.2.2.2.1 gX1_inverseByValues_X0_clear rfl rfl rfl (by decide +kernel) ⟨Nat.le_of_ble_eq_true rfl, Nat.le_of_ble_eq_true rfl⟩) rfl rfl (Nat.le_of_ble_eq_true rfl) dX1_inverseByValues_8 ⟨Nat.le_of_ble_eq_true rfl, Nat.le_of_ble_eq_true rfl⟩ (fun v w1 hp => ?_)
  obtain ⟨rfl, σ', rfl, h1, h2, h3⟩ := hp
  refine gStk (st' := []) (pc' := 11) rfl rfl ?_
  have hF1 := hF.kept h1 hn6
  refine gIconst (pc := 11) hC (v := (nI 0)) dX1_inverseByValues_11 (by decide +kernel) ?_
  refine gIstoreN (pc := 12) hC (lv' := [(3, .int (nI 0)), (0, .ref (lx L)), (1, .ref (la L i0)), (2, .ref (la L k))]) dX1_inverseByValues_12 rfl (by decide) rfl ?_
  refine gLoc (lv' := [(3, .int (nI 0)), (0, .ref (lx L)), (1, .ref (la L i0)), (2, .ref (la L k))]) [0, 1, 2, 3] rfl ?_
  refine loopUp (S := cSt) (fun i ζ => gG p l e rmX1_inverseByValues s m args below meth c D A 4 0 0 Q (WC L ζ) 13 [(3, .int (nI i)), (0, .ref (lx L)), (1, .ref (la L i0)), (2, .ref (la L k))] []) (fun i ζ => fillI σ' 6 n (fun i => iv (F i)) i ζ) n ?_ ?_ 0 (σ') (by omega) (⟨cSame.rf σ' 6, h2, fun j hj => absurd hj (Nat.not_lt_zero j)⟩)
  · intro ζ hI
    revert hI; generalize ζ = σ1; intro hI
    refine gIloadN (pc := 13) hC dX1_inverseByValues_13 rfl 0 rfl ?_
    refine gAloadN (pc := 14) hC dX1_inverseByValues_14 rfl 2 rfl ?_
    refine cGetSize (pc := 15) hC (K := i0) (v := (nI n)) hi0 hin0 hl47 ((hF1.kept hI.1 hn6).1) dX1_inverseByValues_15 ?_
    refine gIcmp_ge (pc := 18) hC (tgt := 45) dX1_inverseByValues_18 (by decide) (fun hc1 => ?_) (fun hc1 => absurd (nI_le (Nat.le_refl _) (by omega)) hc1)
    refine gAloadN (pc := 45) hC dX1_inverseByValues_45 rfl 1 rfl ?_
    refine gAloadN (pc := 46) hC dX1_inverseByValues_46 rfl 1 rfl ?_
    refine cGetRow (pc := 47) hC 3 (by decide) rfl hin1 hl23 dX1_inverseByValues_47 ?_
    refine gAloadN (pc := 50) hC dX1_inverseByValues_50 rfl 3 rfl ?_
    refine gV (pc := 51) (rest := []) (ci := 1) (q0 := 0) hC (c_X1_backRow l D L σ1 6 k n o (fun i => iv (F i)) hk (by decide) (fun h => hk6 h.symm) hI.is.2 hn (hI.1.1.trans (h1.1.trans ho))) rfl rfl (cwV 2 hC.2.2.2.2.1 gX1_inverseByValues_X1_backRow rfl rfl rfl (by decide +kernel) ⟨Nat.le_of_ble_eq_true rfl, Nat.le_of_ble_eq_true rfl⟩) rfl rfl (Nat.le_of_ble_eq_true rfl) dX1_inverseByValues_51 ⟨Nat.le_of_ble_eq_true rfl, Nat.le_of_ble_eq_true rfl⟩ (fun v w1 hp => ?_)
    obtain ⟨rfl, σ2, rfl, h4, h5⟩ := hp
    refine gStk (st' := []) (pc' := 54) rfl rfl ?_
    exact gRetV hC hQ hr (Nat.le_of_ble_eq_true rfl) (Nat.le_of_ble_eq_true rfl) dX1_inverseByValues_54 (⟨rfl, σ2, rfl, ⟨h4.1.trans (hI.1.1.trans h1.1), fun q a b => ⟨(h4.2 q b).1.trans ((hI.1.2 q a).1.trans (h1.2 q a).1), (h4.2 q b).2.trans ((hI.1.2 q a).2.trans (h1.2 q a).2)⟩⟩, h5⟩)
  · intro i ζ hi hI ih
    revert hI; generalize ζ = σ1; intro hI
    refine gIloadN (pc := 13) hC dX1_inverseByValues_13 rfl 0 rfl ?_
    refine gAloadN (pc := 14) hC dX1_inverseByValues_14 rfl 2 rfl ?_
    refine cGetSize (pc := 15) hC (K := i0) (v := (nI n)) hi0 hin0 hl47 ((hF1.kept hI.1 hn6).1) dX1_inverseByValues_15 ?_
    refine gIcmp_ge (pc := 18) hC (tgt := 45) dX1_inverseByValues_18 (by decide) (fun hc2 => absurd hc2 (nI_ge hi (by omega))) (fun hc2 => ?_)
    refine gAloadN (pc := 21) hC dX1_inverseByValues_21 rfl 1 rfl ?_
    refine cGetRow (pc := 22) hC 3 (by decide) rfl hin1 hl23 dX1_inverseByValues_22 ?_
    refine cGetNums (pc := 25) hC (K := 6) (by decide) hin0 hl60 dX1_inverseByValues_25 ?_
    refine gIloadN (pc := 28) hC dX1_inverseByValues_28 rfl 0 rfl ?_
    refine gAloadN (pc := 29) hC dX1_inverseByValues_29 rfl 2 rfl ?_
    refine cGetNums (pc := 30) hC (K := i0) hi0 hin0 hl60 dX1_inverseByValues_30 ?_
    refine gIloadN (pc := 33) hC dX1_inverseByValues_33 rfl 0 rfl ?_
    refine cNumLd (pc := 34) hC (K := i0) (v := (nI (F i).val)) hi0 i (rfl) (by omega) ((hF1.kept hI.1 hn6).2 _ (by omega)) dX1_inverseByValues_34 ?_
    refine gS (pc := 35) (rest := [.int (nI i), .ref (lb L 6)]) hC (c_X1_inverseOf l D _ _ _ (F i) rfl) (va_cwS 1 hC.2.2.2.2.1 gX1_inverseByValues_X1_inverseOf rfl rfl rfl (by decide +kernel) ⟨Nat.le_of_ble_eq_true rfl, Nat.le_of_ble_eq_true rfl⟩) rfl rfl (Nat.le_of_ble_eq_true rfl) dX1_inverseByValues_35 ⟨Nat.le_of_ble_eq_true rfl, Nat.le_of_ble_eq_true rfl⟩ (fun v w1 hp => ?_)
    obtain ⟨rfl, rfl⟩ := hp
    refine gStk (st' := [.int (nI ((fun i => iv (F i)) i).val), .int (nI i), .ref (lb L 6)]) (pc' := 38) rfl rfl ?_
    obtain ⟨σ3, eσ3⟩ : ∃ ζ : cSt, ζ = cNm σ1 6 (upd (σ1.2.2 6) i (nI ((fun i => iv (F i)) i).val)) := ⟨_, rfl⟩
    refine cNumSt (pc := 38) hC (K := 6) (by decide) i (rfl) (by omega) eσ3 dX1_inverseByValues_38 ?_
    refine gIinc (pc := 39) hC (v := (nI (i + 1))) (lv' := [(3, .int (nI (i + 1))), (0, .ref (lx L)), (1, .ref (la L i0)), (2, .ref (la L k))]) dX1_inverseByValues_39 (q := 0) rfl (nI_1 _) (by decide) rfl ?_
    refine gGoto (pc := 42) hC (tgt := 13) dX1_inverseByValues_42 (by decide) ?_
    refine gLoc (lv' := [(3, .int (nI (i + 1))), (0, .ref (lx L)), (1, .ref (la L i0)), (2, .ref (la L k))]) [0, 1, 2, 3] rfl ?_
    exact ih (σ3) (hI.step eσ3 rfl)

def ow (n : Nat) (u : Int) (F : Nat → Rg) (j : Nat) : Rg := ps n u 1 (fun i => F i + F (ix n (-(i : Int)))) j + (F j + F (ix n (-(j : Int)))) * nR (osc n)

abbrev rmX1_ownRow : Room := { frames := 4, cells := 0, slots := 0, locals := 93 }
set_option maxRecDepth 100000 in
set_option maxHeartbeats 4000000 in
theorem c_X1_ownRow (l : Launch) (D : va_G) (L : cLay) (σ : cSt) (i0 k n o : Nat) (F : Nat → Rg) (hk : k < 10) (hi0 : i0 < 10) (hne : i0 ≠ k) (hF : rowIs σ i0 n F) (hn : n = 2 ∨ n = 4 ∨ n = 8 ∨ n = 16) (ho : σ.1 = nI o) (hn6 : i0 ≠ 6) (hk6 : k ≠ 6) : gM l yX1_ownRow wsX1_ownRow rmX1_ownRow D (cTy L) (WC L σ) [.ref (lx L), .ref (la L i0), .ref (la L k)] 0 0 (fun r w => r = none ∧ ∃ σ', w = WC L σ' ∧ (σ'.1 = σ.1 ∧ ∀ q, q ≠ 6 → q ≠ k → σ'.2.1 q = σ.2.1 q ∧ σ'.2.2 q = σ.2.2 q) ∧ rowIs σ' k n (ow n (un o n) F)) := by
  refine gM.of (cc := cX1_ownRow) (maxL := 3) (ret := none) (own := RX1) (by decide) rfl rfl (Nat.le_of_ble_eq_true rfl) rfl ?_
  intro p e s m args below meth c A Q hC hr hnm hQ
  have hin0 : ∀ w ∈ u_ws RX0 TX0 2, w ∈ wsX1_ownRow := by decide +kernel
  have hin1 : ∀ w ∈ u_ws RX1 TX1 8, w ∈ wsX1_ownRow := by decide +kernel
  have hl23 : Cond.fieldLink RX1 23 "Rootrows" "mixed" "LRootrows$Row;" ∈ wsX1_ownRow := by decide +kernel
  have hl47 : Cond.fieldLink RX1 47 "Rootrows$Row" "size" "I" ∈ wsX1_ownRow := by decide +kernel
  have hn5 : okN n := by unfold okN; omega
  have hnl := hn5.le
  refine gAloadN (pc := 0) hC dX1_ownRow_0 rfl 0 rfl ?_
  refine cGetRow (pc := 1) hC 3 (by decide) rfl hin1 hl23 dX1_ownRow_1 ?_
  refine gAloadN (pc := 4) hC dX1_ownRow_4 rfl 1 rfl ?_
  refine gV (pc := 5) (rest := []) (ci := 0) (q0 := 2 + 2 * 6) hC (c_X0_becomeTurned l D L σ 6 i0 n F (by decide) hi0 hn6 hF hn5) rfl (wc_row (by decide)) (cwV 1 hC.2.2.2.2.1 gX1_ownRow_X0_becomeTurned rfl rfl rfl (by decide +kernel) ⟨Nat.le_of_ble_eq_true rfl, Nat.le_of_ble_eq_true rfl⟩) rfl rfl (Nat.le_of_ble_eq_true rfl) dX1_ownRow_5 ⟨Nat.le_of_ble_eq_true rfl, Nat.le_of_ble_eq_true rfl⟩ (fun v w1 hp => ?_)
  obtain ⟨rfl, σ1, rfl, h1, h2⟩ := hp
  refine gStk (st' := []) (pc' := 8) rfl rfl ?_
  refine gAloadN (pc := 8) hC dX1_ownRow_8 rfl 0 rfl ?_
  refine cGetRow (pc := 9) hC 3 (by decide) rfl hin1 hl23 dX1_ownRow_9 ?_
  refine gAloadN (pc := 12) hC dX1_ownRow_12 rfl 1 rfl ?_
  refine gAloadN (pc := 13) hC dX1_ownRow_13 rfl 0 rfl ?_
  refine cGetRow (pc := 14) hC 3 (by decide) rfl hin1 hl23 dX1_ownRow_14 ?_
  refine gV (pc := 17) (rest := []) (ci := 0) (q0 := 2 + 2 * 6) hC (c_X0_becomeSums l D L σ1 6 i0 6 n F (fun i => F (ix n (-(i : Int)))) (by decide) hi0 (by decide) (hF.kept h1 hn6) h2 hn5) rfl (wc_row (by decide)) (cwV 2 hC.2.2.2.2.1 gX1_ownRow_X0_becomeSums rfl rfl rfl (by decide +kernel) ⟨Nat.le_of_ble_eq_true rfl, Nat.le_of_ble_eq_true rfl⟩) rfl rfl (Nat.le_of_ble_eq_true rfl) dX1_ownRow_17 ⟨Nat.le_of_ble_eq_true rfl, Nat.le_of_ble_eq_true rfl⟩ (fun v w1 hp => ?_)
  obtain ⟨rfl, σ2, rfl, h3, h4⟩ := hp
  refine gStk (st' := []) (pc' := 20) rfl rfl ?_
  refine gAloadN (pc := 20) hC dX1_ownRow_20 rfl 0 rfl ?_
  refine gAloadN (pc := 21) hC dX1_ownRow_21 rfl 0 rfl ?_
  refine cGetRow (pc := 22) hC 3 (by decide) rfl hin1 hl23 dX1_ownRow_22 ?_
  refine gAloadN (pc := 25) hC dX1_ownRow_25 rfl 2 rfl ?_
  refine gV (pc := 26) (rest := []) (ci := 1) (q0 := 0) hC (c_X1_plainValues l D L σ2 6 k n o (fun i => F i + F (ix n (-(i : Int)))) hk (by decide) (fun h => hk6 h.symm) h4 hn5 (h3.1.trans (h1.1.trans ho))) rfl rfl (cwV 2 hC.2.2.2.2.1 gX1_ownRow_X1_plainValues rfl rfl rfl (by decide +kernel) ⟨Nat.le_of_ble_eq_true rfl, Nat.le_of_ble_eq_true rfl⟩) rfl rfl (Nat.le_of_ble_eq_true rfl) dX1_ownRow_26 ⟨Nat.le_of_ble_eq_true rfl, Nat.le_of_ble_eq_true rfl⟩ (fun v w1 hp => ?_)
  obtain ⟨rfl, σ3, rfl, h5, h6⟩ := hp
  refine gStk (st' := []) (pc' := 29) rfl rfl ?_
  refine gAloadN (pc := 29) hC dX1_ownRow_29 rfl 0 rfl ?_
  refine cGetRow (pc := 30) hC 3 (by decide) rfl hin1 hl23 dX1_ownRow_30 ?_
  refine gAloadN (pc := 33) hC dX1_ownRow_33 rfl 0 rfl ?_
  refine cGetRow (pc := 34) hC 3 (by decide) rfl hin1 hl23 dX1_ownRow_34 ?_
  refine gAloadN (pc := 37) hC dX1_ownRow_37 rfl 1 rfl ?_
  refine cGetSize (pc := 38) hC (K := i0) (v := (nI n)) hi0 hin0 hl47 ((((hF.kept h1 hn6).kept h3 hn6).kept h5 hne).1) dX1_ownRow_38 ?_
  refine gS (pc := 41) (rest := [.ref (la L 6), .ref (la L 6)]) hC (c_X1_ownScale l D _ _ n hn) (va_cwS 1 hC.2.2.2.2.1 gX1_ownRow_X1_ownScale rfl rfl rfl (by decide +kernel) ⟨Nat.le_of_ble_eq_true rfl, Nat.le_of_ble_eq_true rfl⟩) rfl rfl (Nat.le_of_ble_eq_true rfl) dX1_ownRow_41 ⟨Nat.le_of_ble_eq_true rfl, Nat.le_of_ble_eq_true rfl⟩ (fun v w1 hp => ?_)
  obtain ⟨rfl, rfl⟩ := hp
  refine gStk (st' := [.int (nI (osc n)), .ref (la L 6), .ref (la L 6)]) (pc' := 44) rfl rfl ?_
  refine gV (pc := 44) (rest := []) (ci := 0) (q0 := 2 + 2 * 6) hC (c_X0_becomeScaled l D L σ3 6 6 n (fun i => F i + F (ix n (-(i : Int)))) _ (nR (osc n)) (by decide) (by decide) (h4.kept h5 (fun h => hk6 h.symm)) hn5 (by rw [nR_val (osc_lt n)])) rfl (wc_row (by decide)) (cwV 2 hC.2.2.2.2.1 gX1_ownRow_X0_becomeScaled rfl rfl rfl (by decide +kernel) ⟨Nat.le_of_ble_eq_true rfl, Nat.le_of_ble_eq_true rfl⟩) rfl rfl (Nat.le_of_ble_eq_true rfl) dX1_ownRow_44 ⟨Nat.le_of_ble_eq_true rfl, Nat.le_of_ble_eq_true rfl⟩ (fun v w1 hp => ?_)
  obtain ⟨rfl, σ4, rfl, h7, h8⟩ := hp
  refine gStk (st' := []) (pc' := 47) rfl rfl ?_
  refine gAloadN (pc := 47) hC dX1_ownRow_47 rfl 2 rfl ?_
  refine gAloadN (pc := 48) hC dX1_ownRow_48 rfl 2 rfl ?_
  refine gAloadN (pc := 49) hC dX1_ownRow_49 rfl 0 rfl ?_
  refine cGetRow (pc := 50) hC 3 (by decide) rfl hin1 hl23 dX1_ownRow_50 ?_
  refine gV (pc := 53) (rest := []) (ci := 0) (q0 := 2 + 2 * k) hC (c_X0_becomeSums l D L σ4 k k 6 n (ps n (un o n) 1 (fun i => F i + F (ix n (-(i : Int))))) (fun i => (fun i => F i + F (ix n (-(i : Int)))) i * nR (osc n)) hk hk (by decide) (h6.kept h7 hk6) h8 hn5) rfl (wc_row hk) (cwV 2 hC.2.2.2.2.1 gX1_ownRow_X0_becomeSums rfl rfl rfl (by decide +kernel) ⟨Nat.le_of_ble_eq_true rfl, Nat.le_of_ble_eq_true rfl⟩) rfl rfl (Nat.le_of_ble_eq_true rfl) dX1_ownRow_53 ⟨Nat.le_of_ble_eq_true rfl, Nat.le_of_ble_eq_true rfl⟩ (fun v w1 hp => ?_)
  obtain ⟨rfl, σ5, rfl, h9, h10⟩ := hp
  refine gStk (st' := []) (pc' := 56) rfl rfl ?_
  exact gRetV hC hQ hr (Nat.le_of_ble_eq_true rfl) (Nat.le_of_ble_eq_true rfl) dX1_ownRow_56 (⟨rfl, σ5, rfl, ⟨h9.1.trans (h7.1.trans (h5.1.trans (h3.1.trans h1.1))), fun q a b => ⟨(h9.2 q b).1.trans ((h7.2 q a).1.trans ((h5.2 q b).1.trans ((h3.2 q a).1.trans (h1.2 q a).1))), (h9.2 q b).2.trans ((h7.2 q a).2.trans ((h5.2 q b).2.trans ((h3.2 q a).2.trans (h1.2 q a).2)))⟩⟩, h10⟩)

abbrev rmX1_onlyFactor : Room := { frames := 3, cells := 0, slots := 0, locals := 65 }
set_option maxRecDepth 100000 in
set_option maxHeartbeats 4000000 in
theorem c_X1_onlyFactor (l : Launch) (D : va_G) (L : cLay) (σ : cSt) (i0 j0 n : Nat) (F G : Nat → Rg) (hi0 : i0 < 10) (hj0 : j0 < 10) (hF : rowIs σ i0 n F) (hG : rowIs σ j0 n G) (hnl : n ≤ 16) : gM l yX1_onlyFactor wsX1_onlyFactor rmX1_onlyFactor D (cTy L) (WC L σ) [.ref (la L i0), .ref (la L j0)] 0 0 (fun r w => w = WC L σ ∧ r = some (.int (nI (off F G n 0).val))) := by
  refine gM.of (cc := cX1_onlyFactor) (maxL := 3) (ret := (some .int)) (own := RX1) (by decide) rfl rfl (Nat.le_of_ble_eq_true rfl) rfl ?_
  intro p e s m args below meth c A Q hC hr hnm hQ
  have hin0 : ∀ w ∈ u_ws RX0 TX0 2, w ∈ wsX1_onlyFactor := by decide +kernel
  have hl47 : Cond.fieldLink RX1 47 "Rootrows$Row" "size" "I" ∈ wsX1_onlyFactor := by decide +kernel
  have hl60 : Cond.fieldLink RX1 60 "Rootrows$Row" "numbers" "[I" ∈ wsX1_onlyFactor := by decide +kernel
  refine gIconst (pc := 0) hC (v := (nI 0)) dX1_onlyFactor_0 (by decide +kernel) ?_
  refine gIstoreN (pc := 1) hC (lv' := [(2, .int (nI 0)), (0, .ref (la L i0)), (1, .ref (la L j0))]) dX1_onlyFactor_1 rfl (by decide) rfl ?_
  refine gLoc (lv' := [(2, .int (nI 0)), (0, .ref (la L i0)), (1, .ref (la L j0))]) [0, 1, 2] rfl ?_
  refine loopUp (S := Unit) (fun i ζ => gG p l e rmX1_onlyFactor s m args below meth c D A 3 0 0 Q (WC L σ) 2 [(2, .int (nI i)), (0, .ref (la L i0)), (1, .ref (la L j0))] []) (fun i ζ => off F G n 0 = off F G (n - i) i) n ?_ ?_ 0 (()) (by omega) (rfl)
  · intro ζ hI
    revert hI; generalize ζ = uu; intro hI
    refine gIloadN (pc := 2) hC dX1_onlyFactor_2 rfl 0 rfl ?_
    refine gAloadN (pc := 3) hC dX1_onlyFactor_3 rfl 1 rfl ?_
    refine cGetSize (pc := 4) hC (K := i0) (v := (nI n)) hi0 hin0 hl47 (hF.1) dX1_onlyFactor_4 ?_
    refine gIcmp_ge (pc := 7) hC (tgt := 44) dX1_onlyFactor_7 (by decide) (fun hc1 => ?_) (fun hc1 => absurd (nI_le (Nat.le_refl _) (by omega)) hc1)
    refine gIconst (pc := 44) hC (v := (nI 0)) dX1_onlyFactor_44 (by decide +kernel) ?_
    exact gRetI hC hQ hr (Nat.le_of_ble_eq_true rfl) (Nat.le_of_ble_eq_true rfl) dX1_onlyFactor_45 (⟨rfl, by rw [hI, Nat.sub_self]; rfl⟩)
  · intro i ζ hi hI ih
    revert hI; generalize ζ = uu; intro hI
    refine gIloadN (pc := 2) hC dX1_onlyFactor_2 rfl 0 rfl ?_
    refine gAloadN (pc := 3) hC dX1_onlyFactor_3 rfl 1 rfl ?_
    refine cGetSize (pc := 4) hC (K := i0) (v := (nI n)) hi0 hin0 hl47 (hF.1) dX1_onlyFactor_4 ?_
    refine gIcmp_ge (pc := 7) hC (tgt := 44) dX1_onlyFactor_7 (by decide) (fun hc2 => absurd hc2 (nI_ge hi (by omega))) (fun hc2 => ?_)
    refine gAloadN (pc := 10) hC dX1_onlyFactor_10 rfl 1 rfl ?_
    refine cGetNums (pc := 11) hC (K := i0) hi0 hin0 hl60 dX1_onlyFactor_11 ?_
    refine gIloadN (pc := 14) hC dX1_onlyFactor_14 rfl 0 rfl ?_
    refine cNumLd (pc := 15) hC (K := i0) (v := (nI (F i).val)) hi0 i (rfl) (by omega) (hF.2 _ (by omega)) dX1_onlyFactor_15 ?_
    have hs : n - i = (n - (i + 1)) + 1 := by omega
    refine gIf_eq (pc := 16) hC (tgt := 38) dX1_onlyFactor_16 (by decide) (fun hc3 => ?_) (fun hc3 => ?_)
    · skip
      refine gIinc (pc := 38) hC (v := (nI (i + 1))) (lv' := [(2, .int (nI (i + 1))), (0, .ref (la L i0)), (1, .ref (la L j0))]) dX1_onlyFactor_38 (q := 0) rfl (nI_1 _) (by decide) rfl ?_
      refine gGoto (pc := 41) hC (tgt := 2) dX1_onlyFactor_41 (by decide) ?_
      refine gLoc (lv' := [(2, .int (nI (i + 1))), (0, .ref (la L i0)), (1, .ref (la L j0))]) [0, 1, 2] rfl ?_
      exact ih (()) (by rw [hI, hs, off_s, if_pos ((val0 _).mp hc3)])
    · skip
      refine gAloadN (pc := 19) hC dX1_onlyFactor_19 rfl 2 rfl ?_
      refine cGetNums (pc := 20) hC (K := j0) hj0 hin0 hl60 dX1_onlyFactor_20 ?_
      refine gIloadN (pc := 23) hC dX1_onlyFactor_23 rfl 0 rfl ?_
      refine cNumLd (pc := 24) hC (K := j0) (v := (nI (G i).val)) hj0 i (rfl) (by omega) (hG.2 _ (by omega)) dX1_onlyFactor_24 ?_
      refine gAloadN (pc := 25) hC dX1_onlyFactor_25 rfl 1 rfl ?_
      refine cGetNums (pc := 26) hC (K := i0) hi0 hin0 hl60 dX1_onlyFactor_26 ?_
      refine gIloadN (pc := 29) hC dX1_onlyFactor_29 rfl 0 rfl ?_
      refine cNumLd (pc := 30) hC (K := i0) (v := (nI (F i).val)) hi0 i (rfl) (by omega) (hF.2 _ (by omega)) dX1_onlyFactor_30 ?_
      refine gS (pc := 31) (rest := [.int (nI (G i).val)]) hC (c_X1_inverseOf l D _ _ _ (F i) rfl) (va_cwS 1 hC.2.2.2.2.1 gX1_onlyFactor_X1_inverseOf rfl rfl rfl (by decide +kernel) ⟨Nat.le_of_ble_eq_true rfl, Nat.le_of_ble_eq_true rfl⟩) rfl rfl (Nat.le_of_ble_eq_true rfl) dX1_onlyFactor_31 ⟨Nat.le_of_ble_eq_true rfl, Nat.le_of_ble_eq_true rfl⟩ (fun v w1 hp => ?_)
      obtain ⟨rfl, rfl⟩ := hp
      refine gStk (st' := [.int (nI (iv (F i)).val), .int (nI (G i).val)]) (pc' := 34) rfl rfl ?_
      refine gS (pc := 34) (rest := []) hC (c_X1_multiplied l D _ _ _ _ (G i) (iv (F i)) rfl rfl) (va_cwS 2 hC.2.2.2.2.1 gX1_onlyFactor_X1_multiplied rfl rfl rfl (by decide +kernel) ⟨Nat.le_of_ble_eq_true rfl, Nat.le_of_ble_eq_true rfl⟩) rfl rfl (Nat.le_of_ble_eq_true rfl) dX1_onlyFactor_34 ⟨Nat.le_of_ble_eq_true rfl, Nat.le_of_ble_eq_true rfl⟩ (fun v w1 hp => ?_)
      obtain ⟨rfl, rfl⟩ := hp
      refine gStk (st' := [.int (nI (G i * iv (F i)).val)]) (pc' := 37) rfl rfl ?_
      exact gRetI hC hQ hr (Nat.le_of_ble_eq_true rfl) (Nat.le_of_ble_eq_true rfl) dX1_onlyFactor_37 (⟨rfl, by rw [hI, hs, off_s, if_neg (fun h => hc3 ((val0 _).mpr h))]⟩)

abbrev rmX1_zerosAsNow : Room := { frames := 2, cells := 0, slots := 0, locals := 81 }
set_option maxRecDepth 100000 in
set_option maxHeartbeats 4000000 in
theorem c_X1_zerosAsNow (l : Launch) (D : va_G) (L : cLay) (σ : cSt) (k i0 n : Nat) (F : Nat → Rg) (hk : k < 10) (hi0 : i0 < 10) (hF : rowIs σ i0 n F) (hnl : n ≤ 16) : gM l yX1_zerosAsNow wsX1_zerosAsNow rmX1_zerosAsNow D (cTy L) (WC L σ) [.ref (la L k), .ref (la L i0)] 0 0 (fun r w => r = some (.int (nI (cz F n))) ∧ ∃ σ', w = WC L σ' ∧ cSame σ σ' k ∧ rowIs σ' k n F) := by
  refine gM.of (cc := cX1_zerosAsNow) (maxL := 2) (ret := (some .int)) (own := RX1) (by decide) rfl rfl (Nat.le_of_ble_eq_true rfl) rfl ?_
  intro p e s m args below meth c A Q hC hr hnm hQ
  refine gAloadN (pc := 0) hC dX1_zerosAsNow_0 rfl 0 rfl ?_
  refine gAloadN (pc := 1) hC dX1_zerosAsNow_1 rfl 1 rfl ?_
  refine gV (pc := 2) (rest := []) (ci := 0) (q0 := 2 + 2 * k) hC (c_X0_take l D L σ k i0 hk hi0) rfl (wc_row hk) (cwV 1 hC.2.2.2.2.1 gX1_zerosAsNow_X0_take rfl rfl rfl (by decide +kernel) ⟨Nat.le_of_ble_eq_true rfl, Nat.le_of_ble_eq_true rfl⟩) rfl rfl (Nat.le_of_ble_eq_true rfl) dX1_zerosAsNow_2 ⟨Nat.le_of_ble_eq_true rfl, Nat.le_of_ble_eq_true rfl⟩ (fun v w1 hp => ?_)
  obtain ⟨rfl, σ', rfl, h1, h2, h3⟩ := hp
  refine gStk (st' := []) (pc' := 5) rfl rfl ?_
  have hF2 : rowIs σ' k n F := ⟨h2.trans hF.1, fun j hj => (h3 j (by omega)).trans (hF.2 j hj)⟩
  refine gAloadN (pc := 5) hC dX1_zerosAsNow_5 rfl 0 rfl ?_
  refine gV (pc := 6) (rest := []) (ci := 0) (q0 := 2 + 2 * k) hC (c_X0_countZeros l D L σ' k n F hk hF2 hnl) rfl (wc_row hk) (cwV 0 hC.2.2.2.2.1 gX1_zerosAsNow_X0_countZeros rfl rfl rfl (by decide +kernel) ⟨Nat.le_of_ble_eq_true rfl, Nat.le_of_ble_eq_true rfl⟩) rfl rfl (Nat.le_of_ble_eq_true rfl) dX1_zerosAsNow_6 ⟨Nat.le_of_ble_eq_true rfl, Nat.le_of_ble_eq_true rfl⟩ (fun v w1 hp => ?_)
  obtain ⟨rfl, rfl⟩ := hp
  refine gStk (st' := [.int (nI (cz F n))]) (pc' := 9) rfl rfl ?_
  exact gRetI hC hQ hr (Nat.le_of_ble_eq_true rfl) (Nat.le_of_ble_eq_true rfl) dX1_zerosAsNow_9 (⟨rfl, σ', rfl, h1, hF2⟩)

abbrev rmX1_changed : Room := { frames := 2, cells := 0, slots := 0, locals := 81 }
set_option maxRecDepth 100000 in
set_option maxHeartbeats 4000000 in
theorem c_X1_changed (l : Launch) (D : va_G) (L : cLay) (σ : cSt) (k i0 n : Nat) (G F : Nat → Rg) (hk : k < 10) (hi0 : i0 < 10) (hG : rowIs σ k n G) (hF : rowIs σ i0 n F) (hnl : n ≤ 16) : gM l yX1_changed wsX1_changed rmX1_changed D (cTy L) (WC L σ) [.ref (la L k), .ref (la L i0)] 0 0 (fun r w => r = some (.int (nI (cd G F n))) ∧ ∃ σ', w = WC L σ' ∧ cSame σ σ' k ∧ rowIs σ' k n F) := by
  refine gM.of (cc := cX1_changed) (maxL := 4) (ret := (some .int)) (own := RX1) (by decide) rfl rfl (Nat.le_of_ble_eq_true rfl) rfl ?_
  intro p e s m args below meth c A Q hC hr hnm hQ
  have hin0 : ∀ w ∈ u_ws RX0 TX0 2, w ∈ wsX1_changed := by decide +kernel
  have hl47 : Cond.fieldLink RX1 47 "Rootrows$Row" "size" "I" ∈ wsX1_changed := by decide +kernel
  have hl60 : Cond.fieldLink RX1 60 "Rootrows$Row" "numbers" "[I" ∈ wsX1_changed := by decide +kernel
  refine gIconst (pc := 0) hC (v := (nI 0)) dX1_changed_0 (by decide +kernel) ?_
  refine gIstoreN (pc := 1) hC (lv' := [(2, .int (nI 0)), (0, .ref (la L k)), (1, .ref (la L i0))]) dX1_changed_1 rfl (by decide) rfl ?_
  refine gIconst (pc := 2) hC (v := (nI 0)) dX1_changed_2 (by decide +kernel) ?_
  refine gIstoreN (pc := 3) hC (lv' := [(3, .int (nI 0)), (2, .int (nI 0)), (0, .ref (la L k)), (1, .ref (la L i0))]) dX1_changed_3 rfl (by decide) rfl ?_
  refine gLoc (lv' := [(3, .int (nI 0)), (2, .int (nI 0)), (0, .ref (la L k)), (1, .ref (la L i0))]) [0, 1, 2, 3] rfl ?_
  refine loopUp (S := Int32) (fun i ζ => gG p l e rmX1_changed s m args below meth c D A 4 0 0 Q (WC L σ) 4 [(3, .int (nI i)), (2, .int ζ), (0, .ref (la L k)), (1, .ref (la L i0))] []) (fun i ζ => ζ = nI (cd G F i)) n ?_ ?_ 0 ((nI 0)) (by omega) (rfl)
  · intro ζ hI
    revert hI; generalize ζ = c1; intro hI
    refine gIloadN (pc := 4) hC dX1_changed_4 rfl 0 rfl ?_
    refine gAloadN (pc := 5) hC dX1_changed_5 rfl 3 rfl ?_
    refine cGetSize (pc := 6) hC (K := i0) (v := (nI n)) hi0 hin0 hl47 (hF.1) dX1_changed_6 ?_
    refine gIcmp_ge (pc := 9) hC (tgt := 36) dX1_changed_9 (by decide) (fun hc1 => ?_) (fun hc1 => absurd (nI_le (Nat.le_refl _) (by omega)) hc1)
    refine gAloadN (pc := 36) hC dX1_changed_36 rfl 2 rfl ?_
    refine gAloadN (pc := 37) hC dX1_changed_37 rfl 3 rfl ?_
    refine gV (pc := 38) (rest := []) (ci := 0) (q0 := 2 + 2 * k) hC (c_X0_take l D L σ k i0 hk hi0) rfl (wc_row hk) (cwV 1 hC.2.2.2.2.1 gX1_changed_X0_take rfl rfl rfl (by decide +kernel) ⟨Nat.le_of_ble_eq_true rfl, Nat.le_of_ble_eq_true rfl⟩) rfl rfl (Nat.le_of_ble_eq_true rfl) dX1_changed_38 ⟨Nat.le_of_ble_eq_true rfl, Nat.le_of_ble_eq_true rfl⟩ (fun v w1 hp => ?_)
    obtain ⟨rfl, σ', rfl, h1, h2, h3⟩ := hp
    refine gStk (st' := []) (pc' := 41) rfl rfl ?_
    have hF2 : rowIs σ' k n F := ⟨h2.trans hF.1, fun j hj => (h3 j (by omega)).trans (hF.2 j hj)⟩
    refine gIloadN (pc := 41) hC dX1_changed_41 rfl 1 rfl ?_
    exact gRetI hC hQ hr (Nat.le_of_ble_eq_true rfl) (Nat.le_of_ble_eq_true rfl) dX1_changed_42 (⟨by rw [hI], σ', rfl, h1, hF2⟩)
  · intro i ζ hi hI ih
    revert hI; generalize ζ = c1; intro hI
    refine gIloadN (pc := 4) hC dX1_changed_4 rfl 0 rfl ?_
    refine gAloadN (pc := 5) hC dX1_changed_5 rfl 3 rfl ?_
    refine cGetSize (pc := 6) hC (K := i0) (v := (nI n)) hi0 hin0 hl47 (hF.1) dX1_changed_6 ?_
    refine gIcmp_ge (pc := 9) hC (tgt := 36) dX1_changed_9 (by decide) (fun hc2 => absurd hc2 (nI_ge hi (by omega))) (fun hc2 => ?_)
    refine gAloadN (pc := 12) hC dX1_changed_12 rfl 2 rfl ?_
    refine cGetNums (pc := 13) hC (K := k) hk hin0 hl60 dX1_changed_13 ?_
    refine gIloadN (pc := 16) hC dX1_changed_16 rfl 0 rfl ?_
    refine cNumLd (pc := 17) hC (K := k) (v := (nI (G i).val)) hk i (rfl) (by omega) (hG.2 _ (by omega)) dX1_changed_17 ?_
    refine gAloadN (pc := 18) hC dX1_changed_18 rfl 3 rfl ?_
    refine cGetNums (pc := 19) hC (K := i0) hi0 hin0 hl60 dX1_changed_19 ?_
    refine gIloadN (pc := 22) hC dX1_changed_22 rfl 0 rfl ?_
    refine cNumLd (pc := 23) hC (K := i0) (v := (nI (F i).val)) hi0 i (rfl) (by omega) (hF.2 _ (by omega)) dX1_changed_23 ?_
    refine gIcmp_eq (pc := 24) hC (tgt := 30) dX1_changed_24 (by decide) (fun hc3 => ?_) (fun hc3 => ?_)
    · skip
      refine gIinc (pc := 30) hC (v := (nI (i + 1))) (lv' := [(3, .int (nI (i + 1))), (2, .int c1), (0, .ref (la L k)), (1, .ref (la L i0))]) dX1_changed_30 (q := 0) rfl (nI_1 _) (by decide) rfl ?_
      refine gGoto (pc := 33) hC (tgt := 4) dX1_changed_33 (by decide) ?_
      refine gLoc (lv' := [(3, .int (nI (i + 1))), (2, .int c1), (0, .ref (la L k)), (1, .ref (la L i0))]) [0, 1, 2, 3] rfl ?_
      exact ih (c1) (by rw [hI, cd_s, if_pos (val_ne.mp hc3)]; rfl)
    · skip
      refine gIinc (pc := 27) hC (v := (nI (cd G F i + 1))) (lv' := [(2, .int (nI (cd G F i + 1))), (3, .int (nI i)), (0, .ref (la L k)), (1, .ref (la L i0))]) dX1_changed_27 (q := 1) rfl (by rw [hI]; exact nI_1 _) (by decide) rfl ?_
      refine gIinc (pc := 30) hC (v := (nI (i + 1))) (lv' := [(3, .int (nI (i + 1))), (2, .int (nI (cd G F i + 1))), (0, .ref (la L k)), (1, .ref (la L i0))]) dX1_changed_30 (q := 1) rfl (nI_1 _) (by decide) rfl ?_
      refine gGoto (pc := 33) hC (tgt := 4) dX1_changed_33 (by decide) ?_
      refine gLoc (lv' := [(3, .int (nI (i + 1))), (2, .int (nI (cd G F i + 1))), (0, .ref (la L k)), (1, .ref (la L i0))]) [0, 1, 2, 3] rfl ?_
      exact ih ((nI (cd G F i + 1))) (by rw [cd_s, if_neg (fun h => hc3 (val_ne.mpr h))])

theorem jn_step {σ σ2 σ3 σ4 : cSt} {k n h q r j : Nat} {u : Int} {F : Nat → Rg} (hh : okH h) (hj : j < h) (hJ : cSame σ σ2 k ∧ σ2.2.1 k = nI n ∧ ∀ t, jdone h r j t → σ2.2.2 k t = nI ((jn h q u F) t).val)
    (e3 : σ3 = cNm σ2 k (upd (σ2.2.2 k) (2 * r * h + j) (nI (F (r * h + j) + F ((r + q) * h + j) * pz (u * (j : Int))).val))) (e4 : σ4 = cNm σ3 k (upd (σ3.2.2 k) (2 * r * h + h + j) (nI (F (r * h + j) - F ((r + q) * h + j) * pz (u * (j : Int))).val))) :
    cSame σ σ4 k ∧ σ4.2.1 k = nI n ∧ ∀ t, jdone h r (j + 1) t → σ4.2.2 k t = nI ((jn h q u F) t).val := by
  subst e4
  refine ⟨?_, ?_, fun t ht => ?_⟩
  · subst e3; exact (hJ.1.tr (cSame.nm _ _ _)).tr (cSame.nm _ _ _)
  · subst e3; exact hJ.2.1
  · rw [cNm_at]
    by_cases q2 : t = 2 * r * h + h + j
    · subst q2; rw [upd_at, jn_2 u F hh hj]
    · rw [upd_ne _ _ q2]
      subst e3
      rw [cNm_at]
      by_cases q1 : t = 2 * r * h + j
      · subst q1; rw [upd_at, jn_1 u F hh hj]
      · rw [upd_ne _ _ q1]
        rcases jdone_s ht with a | a | a
        · exact hJ.2.2 t a
        · exact absurd a q1
        · exact absurd a q2

abbrev rmX1_joinParts : Room := { frames := 2, cells := 0, slots := 0, locals := 43 }
set_option maxRecDepth 100000 in
set_option maxHeartbeats 4000000 in
theorem c_X1_joinParts (l : Launch) (D : va_G) (L : cLay) (σ : cSt) (h q k n o : Nat) (F : Nat → Rg) (hk : k < 10) (hk9 : 9 ≠ k) (hF : rowIs σ 9 n F) (hs : σ.2.1 k = nI n) (hh : okH h) (hq : 2 * q * h = n) (hnl : n ≤ 16) (ho : σ.1 = nI o) : gM l yX1_joinParts wsX1_joinParts rmX1_joinParts D (cTy L) (WC L σ) [.ref (lx L), .int (nI h), .int (nI q), .ref (la L k)] 0 0 (fun r w => r = none ∧ ∃ σ', w = WC L σ' ∧ cSame σ σ' k ∧ rowIs σ' k n (jn h q (un o (2 * h)) F)) := by
  refine gM.of (cc := cX1_joinParts) (maxL := 8) (ret := none) (own := RX1) (by decide) rfl rfl (Nat.le_of_ble_eq_true rfl) rfl ?_
  intro p e s m args below meth c A Q hC hr hnm hQ
  have hin0 : ∀ w ∈ u_ws RX0 TX0 2, w ∈ wsX1_joinParts := by decide +kernel
  have hin1 : ∀ w ∈ u_ws RX1 TX1 8, w ∈ wsX1_joinParts := by decide +kernel
  have hl32 : Cond.fieldLink RX1 32 "Rootrows" "parts" "LRootrows$Row;" ∈ wsX1_joinParts := by decide +kernel
  have hl60 : Cond.fieldLink RX1 60 "Rootrows$Row" "numbers" "[I" ∈ wsX1_joinParts := by decide +kernel
  refine gIconst (pc := 0) hC (v := (nI 0)) dX1_joinParts_0 (by decide +kernel) ?_
  refine gIstore (pc := 1) hC (lv' := [(4, .int (nI 0)), (0, .ref (lx L)), (1, .int (nI h)), (2, .int (nI q)), (3, .ref (la L k))]) dX1_joinParts_1 (by decide) rfl ?_
  have hq16 : q ≤ 16 := by rcases hh with rfl | rfl | rfl | rfl <;> omega
  have hh8 : h ≤ 8 := by unfold okH at hh; omega
  refine gLoc (lv' := [(4, .int (nI 0)), (0, .ref (lx L)), (1, .int (nI h)), (2, .int (nI q)), (3, .ref (la L k))]) [0, 1, 2, 3, 4] rfl ?_
  refine loopUp (S := cSt) (fun r ζ => gG p l e rmX1_joinParts s m args below meth c D A 8 0 0 Q (WC L ζ) 3 [(4, .int (nI r)), (0, .ref (lx L)), (1, .int (nI h)), (2, .int (nI q)), (3, .ref (la L k))] []) (fun r ζ => cSame σ ζ k ∧ ζ.2.1 k = nI n ∧ ∀ t, jdone h r 0 t → ζ.2.2 k t = nI ((jn h q (un o (2 * h)) F) t).val) q ?_ ?_ 0 (σ) (by omega) (⟨cSame.rf σ k, hs, fun t ht => by unfold jdone at ht; omega⟩)
  · intro ζ hI
    revert hI; generalize ζ = σ1; intro hI
    refine gIload (pc := 3) hC dX1_joinParts_3 0 rfl ?_
    refine gIloadN (pc := 5) hC dX1_joinParts_5 rfl 3 rfl ?_
    refine gIcmp_ge (pc := 6) hC (tgt := 122) dX1_joinParts_6 (by decide) (fun hc1 => ?_) (fun hc1 => absurd (nI_le (Nat.le_refl _) (by omega)) hc1)
    exact gRetV hC hQ hr (Nat.le_of_ble_eq_true rfl) (Nat.le_of_ble_eq_true rfl) dX1_joinParts_122 (⟨rfl, σ1, rfl, hI.1, hI.2.1, fun t ht => hI.2.2 t (jdone_e hq ht)⟩)
  · intro r ζ hi hI ih
    revert hI; generalize ζ = σ1; intro hI
    refine gIload (pc := 3) hC dX1_joinParts_3 0 rfl ?_
    refine gIloadN (pc := 5) hC dX1_joinParts_5 rfl 3 rfl ?_
    refine gIcmp_ge (pc := 6) hC (tgt := 122) dX1_joinParts_6 (by decide) (fun hc2 => absurd hc2 (nI_ge hi (by omega))) (fun hc2 => ?_)
    refine gIconst (pc := 9) hC (v := (nI 0)) dX1_joinParts_9 (by decide +kernel) ?_
    refine gIstore (pc := 10) hC (lv' := [(5, .int (nI 0)), (4, .int (nI r)), (0, .ref (lx L)), (1, .int (nI h)), (2, .int (nI q)), (3, .ref (la L k))]) dX1_joinParts_10 (by decide) rfl ?_
    refine gLoc (lv' := [(5, .int (nI 0)), (0, .ref (lx L)), (1, .int (nI h)), (2, .int (nI q)), (3, .ref (la L k)), (4, .int (nI r))]) [0, 2, 3, 4, 5, 1] rfl ?_
    refine loopUp (S := cSt) (fun j ζ => gG p l e rmX1_joinParts s m args below meth c D A 8 0 0 Q (WC L ζ) 12 [(5, .int (nI j)), (0, .ref (lx L)), (1, .int (nI h)), (2, .int (nI q)), (3, .ref (la L k)), (4, .int (nI r))] []) (fun j ζ => cSame σ ζ k ∧ ζ.2.1 k = nI n ∧ ∀ t, jdone h r j t → ζ.2.2 k t = nI ((jn h q (un o (2 * h)) F) t).val) h ?_ ?_ 0 (σ1) (by omega) (hI)
    · intro ζ hJ
      revert hJ; generalize ζ = σ2; intro hJ
      refine gIload (pc := 12) hC dX1_joinParts_12 0 rfl ?_
      refine gIloadN (pc := 14) hC dX1_joinParts_14 rfl 2 rfl ?_
      refine gIcmp_ge (pc := 15) hC (tgt := 116) dX1_joinParts_15 (by decide) (fun hc3 => ?_) (fun hc3 => absurd (nI_le (Nat.le_refl _) (by omega)) hc3)
      refine gIinc (pc := 116) hC (v := (nI (r + 1))) (lv' := [(4, .int (nI (r + 1))), (5, .int (nI h)), (0, .ref (lx L)), (1, .int (nI h)), (2, .int (nI q)), (3, .ref (la L k))]) dX1_joinParts_116 (q := 5) rfl (nI_1 _) (by decide) rfl ?_
      refine gGoto (pc := 119) hC (tgt := 3) dX1_joinParts_119 (by decide) ?_
      refine gLoc (lv' := [(4, .int (nI (r + 1))), (0, .ref (lx L)), (1, .int (nI h)), (2, .int (nI q)), (3, .ref (la L k))]) [0, 2, 3, 4, 5] rfl ?_
      exact ih (σ2) (⟨hJ.1, hJ.2.1, fun t ht => hJ.2.2 t (jdone_r hh ht)⟩)
    · intro j ζ hj hJ jh
      revert hJ; generalize ζ = σ2; intro hJ
      obtain ⟨b1, b2, b3, b4⟩ := jn_b hh hq hnl hi hj
      have hF2 := hF.kept hJ.1 hk9
      refine gIload (pc := 12) hC dX1_joinParts_12 0 rfl ?_
      refine gIloadN (pc := 14) hC dX1_joinParts_14 rfl 2 rfl ?_
      refine gIcmp_ge (pc := 15) hC (tgt := 116) dX1_joinParts_15 (by decide) (fun hc4 => absurd hc4 (nI_ge hj (by omega))) (fun hc4 => ?_)
      refine gAloadN (pc := 18) hC dX1_joinParts_18 rfl 1 rfl ?_
      refine cGetRow (pc := 19) hC 6 (by decide) rfl hin1 hl32 dX1_joinParts_19 ?_
      refine cGetNums (pc := 22) hC (K := 9) (by decide) hin0 hl60 dX1_joinParts_22 ?_
      refine gIload (pc := 25) hC dX1_joinParts_25 5 rfl ?_
      refine gIloadN (pc := 27) hC dX1_joinParts_27 rfl 2 rfl ?_
      refine gImul (pc := 28) hC (v := (nI (r * h))) dX1_joinParts_28 (pk_mul _ _) ?_
      refine gIload (pc := 29) hC dX1_joinParts_29 0 rfl ?_
      refine gIadd (pc := 31) hC (v := (nI (r * h + j))) dX1_joinParts_31 (nI_add _ _) ?_
      refine cNumLd (pc := 32) hC (K := 9) (v := (nI (F (r * h + j)).val)) (by decide) (r * h + j) (rfl) (by omega) (hF2.2 _ b1) dX1_joinParts_32 ?_
      refine gIstore (pc := 33) hC (lv' := [(6, .int (nI (F (r * h + j)).val)), (5, .int (nI j)), (0, .ref (lx L)), (1, .int (nI h)), (2, .int (nI q)), (3, .ref (la L k)), (4, .int (nI r))]) dX1_joinParts_33 (by decide) rfl ?_
      refine gAloadN (pc := 35) hC dX1_joinParts_35 rfl 2 rfl ?_
      refine cGetRow (pc := 36) hC 6 (by decide) rfl hin1 hl32 dX1_joinParts_36 ?_
      refine cGetNums (pc := 39) hC (K := 9) (by decide) hin0 hl60 dX1_joinParts_39 ?_
      refine gIload (pc := 42) hC dX1_joinParts_42 6 rfl ?_
      refine gIloadN (pc := 44) hC dX1_joinParts_44 rfl 4 rfl ?_
      refine gIadd (pc := 45) hC (v := (nI (r + q))) dX1_joinParts_45 (nI_add _ _) ?_
      refine gIloadN (pc := 46) hC dX1_joinParts_46 rfl 3 rfl ?_
      refine gImul (pc := 47) hC (v := (nI ((r + q) * h))) dX1_joinParts_47 (pk_mul _ _) ?_
      refine gIload (pc := 48) hC dX1_joinParts_48 1 rfl ?_
      refine gIadd (pc := 50) hC (v := (nI ((r + q) * h + j))) dX1_joinParts_50 (nI_add _ _) ?_
      refine cNumLd (pc := 51) hC (K := 9) (v := (nI (F ((r + q) * h + j)).val)) (by decide) ((r + q) * h + j) (rfl) (by omega) (hF2.2 _ b2) dX1_joinParts_51 ?_
      refine gAloadN (pc := 52) hC dX1_joinParts_52 rfl 2 rfl ?_
      refine gIconst (pc := 53) hC (v := (nI 2)) dX1_joinParts_53 (by decide +kernel) ?_
      refine gIloadN (pc := 54) hC dX1_joinParts_54 rfl 3 rfl ?_
      refine gImul (pc := 55) hC (v := (nI (2 * h))) dX1_joinParts_55 (pk_mul _ _) ?_
      refine gIload (pc := 56) hC dX1_joinParts_56 1 rfl ?_
      refine gV (pc := 58) (rest := [.int (nI (F ((r + q) * h + j)).val)]) (ci := 1) (q0 := 0) hC (c_X1_rootTo l D L σ2 (2 * h) o _ (j : Int) (by unfold okH at hh; unfold okN; omega) (hJ.1.1.trans ho) (hz_pos (by omega))) rfl rfl (cwV 2 hC.2.2.2.2.1 gX1_joinParts_X1_rootTo rfl rfl rfl (by decide +kernel) ⟨Nat.le_of_ble_eq_true rfl, Nat.le_of_ble_eq_true rfl⟩) rfl rfl (Nat.le_of_ble_eq_true rfl) dX1_joinParts_58 ⟨Nat.le_of_ble_eq_true rfl, Nat.le_of_ble_eq_true rfl⟩ (fun v w1 hp => ?_)
      obtain ⟨rfl, rfl⟩ := hp
      refine gStk (st' := [.int (nI (pz (un o (2 * h) * j)).val), .int (nI (F ((r + q) * h + j)).val)]) (pc' := 61) rfl rfl ?_
      refine gS (pc := 61) (rest := []) hC (c_X1_multiplied l D _ _ _ _ (F ((r + q) * h + j)) (pz (un o (2 * h) * j)) rfl rfl) (va_cwS 2 hC.2.2.2.2.1 gX1_joinParts_X1_multiplied rfl rfl rfl (by decide +kernel) ⟨Nat.le_of_ble_eq_true rfl, Nat.le_of_ble_eq_true rfl⟩) rfl rfl (Nat.le_of_ble_eq_true rfl) dX1_joinParts_61 ⟨Nat.le_of_ble_eq_true rfl, Nat.le_of_ble_eq_true rfl⟩ (fun v w1 hp => ?_)
      obtain ⟨rfl, rfl⟩ := hp
      refine gStk (st' := [.int (nI (F ((r + q) * h + j) * pz (un o (2 * h) * j)).val)]) (pc' := 64) rfl rfl ?_
      refine gIstore (pc := 64) hC (lv' := [(7, .int (nI (F ((r + q) * h + j) * pz (un o (2 * h) * j)).val)), (6, .int (nI (F (r * h + j)).val)), (5, .int (nI j)), (0, .ref (lx L)), (1, .int (nI h)), (2, .int (nI q)), (3, .ref (la L k)), (4, .int (nI r))]) dX1_joinParts_64 (by decide) rfl ?_
      refine gAloadN (pc := 66) hC dX1_joinParts_66 rfl 6 rfl ?_
      refine cGetNums (pc := 67) hC (K := k) hk hin0 hl60 dX1_joinParts_67 ?_
      refine gIconst (pc := 70) hC (v := (nI 2)) dX1_joinParts_70 (by decide +kernel) ?_
      refine gIload (pc := 71) hC dX1_joinParts_71 7 rfl ?_
      refine gImul (pc := 73) hC (v := (nI (2 * r))) dX1_joinParts_73 (pk_mul _ _) ?_
      refine gIloadN (pc := 74) hC dX1_joinParts_74 rfl 4 rfl ?_
      refine gImul (pc := 75) hC (v := (nI (2 * r * h))) dX1_joinParts_75 (pk_mul _ _) ?_
      refine gIload (pc := 76) hC dX1_joinParts_76 2 rfl ?_
      refine gIadd (pc := 78) hC (v := (nI (2 * r * h + j))) dX1_joinParts_78 (nI_add _ _) ?_
      refine gIload (pc := 79) hC dX1_joinParts_79 1 rfl ?_
      refine gIload (pc := 81) hC dX1_joinParts_81 0 rfl ?_
      refine gS (pc := 83) (rest := [.int (nI (2 * r * h + j)), .ref (lb L k)]) hC (c_X1_added l D _ _ _ _ (F (r * h + j)) (F ((r + q) * h + j) * pz (un o (2 * h) * j)) rfl rfl) (va_cwS 2 hC.2.2.2.2.1 gX1_joinParts_X1_added rfl rfl rfl (by decide +kernel) ⟨Nat.le_of_ble_eq_true rfl, Nat.le_of_ble_eq_true rfl⟩) rfl rfl (Nat.le_of_ble_eq_true rfl) dX1_joinParts_83 ⟨Nat.le_of_ble_eq_true rfl, Nat.le_of_ble_eq_true rfl⟩ (fun v w1 hp => ?_)
      obtain ⟨rfl, rfl⟩ := hp
      refine gStk (st' := [.int (nI (F (r * h + j) + F ((r + q) * h + j) * pz (un o (2 * h) * j)).val), .int (nI (2 * r * h + j)), .ref (lb L k)]) (pc' := 86) rfl rfl ?_
      obtain ⟨σ5, eσ5⟩ : ∃ ζ : cSt, ζ = cNm σ2 k (upd (σ2.2.2 k) (2 * r * h + j) (nI (F (r * h + j) + F ((r + q) * h + j) * pz (un o (2 * h) * j)).val)) := ⟨_, rfl⟩
      refine cNumSt (pc := 86) hC (K := k) hk (2 * r * h + j) (rfl) (by omega) eσ5 dX1_joinParts_86 ?_
      refine gAloadN (pc := 87) hC dX1_joinParts_87 rfl 6 rfl ?_
      refine cGetNums (pc := 88) hC (K := k) hk hin0 hl60 dX1_joinParts_88 ?_
      refine gIconst (pc := 91) hC (v := (nI 2)) dX1_joinParts_91 (by decide +kernel) ?_
      refine gIload (pc := 92) hC dX1_joinParts_92 7 rfl ?_
      refine gImul (pc := 94) hC (v := (nI (2 * r))) dX1_joinParts_94 (pk_mul _ _) ?_
      refine gIloadN (pc := 95) hC dX1_joinParts_95 rfl 4 rfl ?_
      refine gImul (pc := 96) hC (v := (nI (2 * r * h))) dX1_joinParts_96 (pk_mul _ _) ?_
      refine gIloadN (pc := 97) hC dX1_joinParts_97 rfl 4 rfl ?_
      refine gIadd (pc := 98) hC (v := (nI (2 * r * h + h))) dX1_joinParts_98 (nI_add _ _) ?_
      refine gIload (pc := 99) hC dX1_joinParts_99 2 rfl ?_
      refine gIadd (pc := 101) hC (v := (nI (2 * r * h + h + j))) dX1_joinParts_101 (nI_add _ _) ?_
      refine gIload (pc := 102) hC dX1_joinParts_102 1 rfl ?_
      refine gIload (pc := 104) hC dX1_joinParts_104 0 rfl ?_
      refine gS (pc := 106) (rest := [.int (nI (2 * r * h + h + j)), .ref (lb L k)]) hC (c_X1_lessened l D _ _ _ _ (F (r * h + j)) (F ((r + q) * h + j) * pz (un o (2 * h) * j)) rfl rfl) (va_cwS 2 hC.2.2.2.2.1 gX1_joinParts_X1_lessened rfl rfl rfl (by decide +kernel) ⟨Nat.le_of_ble_eq_true rfl, Nat.le_of_ble_eq_true rfl⟩) rfl rfl (Nat.le_of_ble_eq_true rfl) dX1_joinParts_106 ⟨Nat.le_of_ble_eq_true rfl, Nat.le_of_ble_eq_true rfl⟩ (fun v w1 hp => ?_)
      obtain ⟨rfl, rfl⟩ := hp
      refine gStk (st' := [.int (nI (F (r * h + j) - F ((r + q) * h + j) * pz (un o (2 * h) * j)).val), .int (nI (2 * r * h + h + j)), .ref (lb L k)]) (pc' := 109) rfl rfl ?_
      obtain ⟨σ6, eσ6⟩ : ∃ ζ : cSt, ζ = cNm σ5 k (upd (σ5.2.2 k) (2 * r * h + h + j) (nI (F (r * h + j) - F ((r + q) * h + j) * pz (un o (2 * h) * j)).val)) := ⟨_, rfl⟩
      refine cNumSt (pc := 109) hC (K := k) hk (2 * r * h + h + j) (rfl) (by omega) eσ6 dX1_joinParts_109 ?_
      refine gIinc (pc := 110) hC (v := (nI (j + 1))) (lv' := [(5, .int (nI (j + 1))), (7, .int (nI (F ((r + q) * h + j) * pz (un o (2 * h) * j)).val)), (6, .int (nI (F (r * h + j)).val)), (0, .ref (lx L)), (1, .int (nI h)), (2, .int (nI q)), (3, .ref (la L k)), (4, .int (nI r))]) dX1_joinParts_110 (q := 2) rfl (nI_1 _) (by decide) rfl ?_
      refine gGoto (pc := 113) hC (tgt := 12) dX1_joinParts_113 (by decide) ?_
      refine gLoc (lv' := [(5, .int (nI (j + 1))), (0, .ref (lx L)), (1, .int (nI h)), (2, .int (nI q)), (3, .ref (la L k)), (4, .int (nI r))]) [0, 3, 4, 5, 6, 7] rfl ?_
      exact jh (σ6) (jn_step hh hj hJ eσ5 eσ6)
