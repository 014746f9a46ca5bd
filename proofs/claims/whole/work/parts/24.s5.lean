abbrev rmX0_becomeRingProduct : Room := { frames := 2, cells := 0, slots := 0, locals := 44 }
set_option maxRecDepth 100000 in
set_option maxHeartbeats 4000000 in
theorem c_X0_becomeRingProduct (l : Launch) (D : va_G) (L : cLay) (σ : cSt) (k i0 j0 n : Nat) (F G : Nat → Rg) (hk : k < 10) (hi0 : i0 < 10) (hj0 : j0 < 10) (hne : i0 ≠ k) (hnf : j0 ≠ k) (hF : rowIs σ i0 n F) (hG : rowIs σ j0 n G) (hn : okN n) : gM l yX0_becomeRingProduct wsX0_becomeRingProduct rmX0_becomeRingProduct D (cTy L) (WC L σ) [.ref (la L k), .ref (la L i0), .ref (la L j0)] 0 0 (fun r w => r = none ∧ ∃ σ', w = WC L σ' ∧ cSame σ σ' k ∧ rowIs σ' k n (rp n F G)) := by
  refine gM.of (cc := cX0_becomeRingProduct) (maxL := 7) (ret := none) (own := RX0) (by decide) rfl rfl (Nat.le_of_ble_eq_true rfl) rfl ?_
  intro p e s m args below meth c A Q hC hr hnm hQ
  have hin0 : ∀ w ∈ u_ws RX0 TX0 2, w ∈ wsX0_becomeRingProduct := by decide +kernel
  have hl9 : Cond.fieldLink RX0 9 "Rootrows$Row" "numbers" "[I" ∈ wsX0_becomeRingProduct := by decide +kernel
  have hl15 : Cond.fieldLink RX0 15 "Rootrows$Row" "size" "I" ∈ wsX0_becomeRingProduct := by decide +kernel
  have hnl := hn.le
  refine gAloadN (pc := 0) hC dX0_becomeRingProduct_0 rfl 0 rfl ?_
  refine gAloadN (pc := 1) hC dX0_becomeRingProduct_1 rfl 1 rfl ?_
  refine cGetSize (pc := 2) hC (K := i0) (v := (nI n)) hi0 hin0 hl15 (hF.1) dX0_becomeRingProduct_2 ?_
  refine gV (pc := 5) (rest := []) (ci := 0) (q0 := 2 + 2 * k) hC (c_X0_clear l D L σ k hk (nI n)) rfl (wc_row hk) (cwV 1 hC.2.2.2.2.1 gX0_becomeRingProduct_X0_clear rfl rfl rfl (by decide +kernel) ⟨Nat.le_of_ble_eq_true rfl, Nat.le_of_ble_eq_true rfl⟩) rfl rfl (Nat.le_of_ble_eq_true rfl) dX0_becomeRingProduct_5 ⟨Nat.le_of_ble_eq_true rfl, Nat.le_of_ble_eq_true rfl⟩ (fun v w1 hp => ?_)
  obtain ⟨rfl, σ', rfl, h1, h2, h3⟩ := hp
  refine gStk (st' := []) (pc' := 8) rfl rfl ?_
  have hF1 := hF.kept h1 hne
  have hG1 := hG.kept h1 hnf
  refine gIconst (pc := 8) hC (v := (nI 0)) dX0_becomeRingProduct_8 (by decide +kernel) ?_
  refine gIstoreN (pc := 9) hC (lv' := [(3, .int (nI 0)), (0, .ref (la L k)), (1, .ref (la L i0)), (2, .ref (la L j0))]) dX0_becomeRingProduct_9 rfl (by decide) rfl ?_
  refine gLoc (lv' := [(3, .int (nI 0)), (0, .ref (la L k)), (1, .ref (la L i0)), (2, .ref (la L j0))]) [0, 1, 2, 3] rfl ?_
  refine loopUp (S := cSt) (fun t ζ => gG p l e rmX0_becomeRingProduct s m args below meth c D A 7 0 0 Q (WC L ζ) 10 [(3, .int (nI t)), (0, .ref (la L k)), (1, .ref (la L i0)), (2, .ref (la L j0))] []) (fun t ζ => fillI σ' k n (rp n F G) t ζ) n ?_ ?_ 0 (σ') (by omega) (⟨cSame.rf σ' k, h2, fun j hj => absurd hj (Nat.not_lt_zero j)⟩)
  · intro ζ hI
    revert hI; generalize ζ = σ1; intro hI
    refine gIloadN (pc := 10) hC dX0_becomeRingProduct_10 rfl 0 rfl ?_
    refine gAloadN (pc := 11) hC dX0_becomeRingProduct_11 rfl 1 rfl ?_
    refine cGetSize (pc := 12) hC (K := k) (v := (nI n)) hk hin0 hl15 (hI.2.1) dX0_becomeRingProduct_12 ?_
    refine gIcmp_ge (pc := 15) hC (tgt := 79) dX0_becomeRingProduct_15 (by decide) (fun hc1 => ?_) (fun hc1 => absurd (nI_le (Nat.le_refl _) (by omega)) hc1)
    exact gRetV hC hQ hr (Nat.le_of_ble_eq_true rfl) (Nat.le_of_ble_eq_true rfl) dX0_becomeRingProduct_79 (⟨rfl, σ1, rfl, h1.tr hI.1, hI.is.2⟩)
  · intro t ζ hi hI ih
    revert hI; generalize ζ = σ1; intro hI
    have hF2 := hF1.kept hI.1 hne
    have hG2 := hG1.kept hI.1 hnf
    refine gIloadN (pc := 10) hC dX0_becomeRingProduct_10 rfl 0 rfl ?_
    refine gAloadN (pc := 11) hC dX0_becomeRingProduct_11 rfl 1 rfl ?_
    refine cGetSize (pc := 12) hC (K := k) (v := (nI n)) hk hin0 hl15 (hI.2.1) dX0_becomeRingProduct_12 ?_
    refine gIcmp_ge (pc := 15) hC (tgt := 79) dX0_becomeRingProduct_15 (by decide) (fun hc2 => absurd hc2 (nI_ge hi (by omega))) (fun hc2 => ?_)
    refine gLconst (pc := 18) hC (v := (lN 0)) dX0_becomeRingProduct_18 (by decide +kernel) ?_
    refine gLstore (pc := 19) hC (lv' := [(4, .long (lN 0)), (3, .int (nI t)), (0, .ref (la L k)), (1, .ref (la L i0)), (2, .ref (la L j0))]) dX0_becomeRingProduct_19 (by decide) rfl ?_
    refine gIconst (pc := 21) hC (v := (nI 0)) dX0_becomeRingProduct_21 (by decide +kernel) ?_
    refine gIstore (pc := 22) hC (lv' := [(6, .int (nI 0)), (4, .long (lN 0)), (3, .int (nI t)), (0, .ref (la L k)), (1, .ref (la L i0)), (2, .ref (la L j0))]) dX0_becomeRingProduct_22 (by decide) rfl ?_
    have ht := hi
    clear hi
    refine gLoc (lv' := [(6, .int (nI 0)), (4, .long (lN 0)), (0, .ref (la L k)), (1, .ref (la L i0)), (2, .ref (la L j0)), (3, .int (nI t))]) [0, 1, 3, 4, 5, 2] rfl ?_
    refine loopUp (S := Int64) (fun i ζ => gG p l e rmX0_becomeRingProduct s m args below meth c D A 7 0 0 Q (WC L σ1) 24 [(6, .int (nI i)), (4, .long ζ), (0, .ref (la L k)), (1, .ref (la L i0)), (2, .ref (la L j0)), (3, .int (nI t))] []) (fun i ζ => ζ = (lN (sn i (fun i => (F i).val * ((fun i => G (ix n ((t : Int) - i))) i).val)))) n ?_ ?_ 0 ((lN 0)) (by omega) (rfl)
    · intro ζ hJ
      revert hJ; generalize ζ = c1; intro hJ
      refine gIload (pc := 24) hC dX0_becomeRingProduct_24 0 rfl ?_
      refine gAloadN (pc := 26) hC dX0_becomeRingProduct_26 rfl 3 rfl ?_
      refine cGetSize (pc := 27) hC (K := i0) (v := (nI n)) hi0 hin0 hl15 (hF2.1) dX0_becomeRingProduct_27 ?_
      refine gIcmp_ge (pc := 30) hC (tgt := 62) dX0_becomeRingProduct_30 (by decide) (fun hc3 => ?_) (fun hc3 => absurd (nI_le (Nat.le_refl _) (by omega)) hc3)
      refine gAloadN (pc := 62) hC dX0_becomeRingProduct_62 rfl 2 rfl ?_
      refine cGetNums (pc := 63) hC (K := k) hk hin0 hl9 dX0_becomeRingProduct_63 ?_
      refine gIloadN (pc := 66) hC dX0_becomeRingProduct_66 rfl 5 rfl ?_
      refine gLload (pc := 67) hC dX0_becomeRingProduct_67 1 rfl ?_
      refine gSN (pc := 69) (rest := [.int (nI t), .ref (lb L k)]) hC (c_X1_reduced l D _ _ _ _ hJ (sn_lt F (fun i => G (ix n ((t : Int) - i))) hnl)) ⟨va_cnB (host := "Rootrows") 1 hC.2.2.2.2.1 gX0_becomeRingProduct_X1_reduced_n39 rfl rfl rfl (hC.2.2.2.2.2.2.2.1.1 _ (by decide +kernel)) (hC.2.2.2.2.1 (.initialized RX1) (by decide +kernel)) (by decide +kernel) ⟨Nat.le_of_ble_eq_true rfl, Nat.le_of_ble_eq_true rfl⟩, hC.2.2.2.2.1 (.static yX1_reduced) (by decide +kernel), trivial⟩ rfl rfl (Nat.le_of_ble_eq_true rfl) dX0_becomeRingProduct_69 ⟨Nat.le_of_ble_eq_true rfl, Nat.le_of_ble_eq_true rfl⟩ (fun v w1 hp => ?_)
      obtain ⟨rfl, rfl⟩ := hp
      refine gStk (st' := [.int (nI (sn n (fun i => (F i).val * ((fun i => G (ix n ((t : Int) - i))) i).val) % 65537)), .int (nI t), .ref (lb L k)]) (pc' := 72) rfl rfl ?_
      obtain ⟨σ4, eσ4⟩ : ∃ ζ : cSt, ζ = cNm σ1 k (upd (σ1.2.2 k) t (nI (sn n (fun i => (F i).val * ((fun i => G (ix n ((t : Int) - i))) i).val) % 65537))) := ⟨_, rfl⟩
      refine cNumSt (pc := 72) hC (K := k) hk t (rfl) (by omega) eσ4 dX0_becomeRingProduct_72 ?_
      refine gIinc (pc := 73) hC (v := (nI (t + 1))) (lv' := [(3, .int (nI (t + 1))), (6, .int (nI n)), (4, .long c1), (0, .ref (la L k)), (1, .ref (la L i0)), (2, .ref (la L j0))]) dX0_becomeRingProduct_73 (q := 5) rfl (nI_1 _) (by decide) rfl ?_
      refine gGoto (pc := 76) hC (tgt := 10) dX0_becomeRingProduct_76 (by decide) ?_
      refine gLoc (lv' := [(3, .int (nI (t + 1))), (0, .ref (la L k)), (1, .ref (la L i0)), (2, .ref (la L j0))]) [0, 3, 4, 5] rfl ?_
      exact ih (σ4) (hI.step eσ4 (congrArg nI (rp_fold n F G t)))
    · intro i ζ hi hJ jh
      revert hJ; generalize ζ = c1; intro hJ
      refine gIload (pc := 24) hC dX0_becomeRingProduct_24 0 rfl ?_
      refine gAloadN (pc := 26) hC dX0_becomeRingProduct_26 rfl 3 rfl ?_
      refine cGetSize (pc := 27) hC (K := i0) (v := (nI n)) hi0 hin0 hl15 (hF2.1) dX0_becomeRingProduct_27 ?_
      refine gIcmp_ge (pc := 30) hC (tgt := 62) dX0_becomeRingProduct_30 (by decide) (fun hc5 => absurd hc5 (nI_ge hi (by omega))) (fun hc5 => ?_)
      refine gLload (pc := 33) hC dX0_becomeRingProduct_33 1 rfl ?_
      refine gAloadN (pc := 35) hC dX0_becomeRingProduct_35 rfl 3 rfl ?_
      refine cGetNums (pc := 36) hC (K := i0) hi0 hin0 hl9 dX0_becomeRingProduct_36 ?_
      refine gIload (pc := 39) hC dX0_becomeRingProduct_39 0 rfl ?_
      refine cNumLd (pc := 41) hC (K := i0) (v := (nI (F i).val)) hi0 i (rfl) (by omega) (hF2.2 _ (by omega)) dX0_becomeRingProduct_41 ?_
      refine gI2l (pc := 42) hC dX0_becomeRingProduct_42 rfl ?_
      refine gAloadN (pc := 43) hC dX0_becomeRingProduct_43 rfl 4 rfl ?_
      refine gIloadN (pc := 44) hC dX0_becomeRingProduct_44 rfl 5 rfl ?_
      refine gIload (pc := 45) hC dX0_becomeRingProduct_45 0 rfl ?_
      refine gIsub (pc := 47) hC dX0_becomeRingProduct_47 rfl ?_
      refine gV (pc := 48) (rest := [.long ((nI (F i).val).toInt64), .long c1]) (ci := 0) (q0 := 2 + 2 * j0) hC (c_X0_roundAt l D L σ1 j0 n G _ ((t : Int) - i) hj0 hG2 hn (by rw [hz_sub (by omega), nI_toInt (by omega)])) rfl (wc_row hj0) (cwV 1 hC.2.2.2.2.1 gX0_becomeRingProduct_X0_roundAt rfl rfl rfl (by decide +kernel) ⟨Nat.le_of_ble_eq_true rfl, Nat.le_of_ble_eq_true rfl⟩) rfl rfl (Nat.le_of_ble_eq_true rfl) dX0_becomeRingProduct_48 ⟨Nat.le_of_ble_eq_true rfl, Nat.le_of_ble_eq_true rfl⟩ (fun v w1 hp => ?_)
      obtain ⟨rfl, rfl⟩ := hp
      refine gStk (st' := [.int (nI (G (ix n ((t : Int) - i))).val), .long ((nI (F i).val).toInt64), .long c1]) (pc' := 51) rfl rfl ?_
      refine gI2l (pc := 51) hC dX0_becomeRingProduct_51 rfl ?_
      refine gLmul (pc := 52) hC dX0_becomeRingProduct_52 rfl ?_
      refine gLadd (pc := 53) hC (v := (lN (sn (i + 1) (fun i => (F i).val * ((fun i => G (ix n ((t : Int) - i))) i).val)))) dX0_becomeRingProduct_53 (by rw [hJ]; exact sn_step F (fun i => G (ix n ((t : Int) - i))) i rfl rfl) ?_
      refine gLstore (pc := 54) hC (lv' := [(4, .long (lN (sn (i + 1) (fun i => (F i).val * ((fun i => G (ix n ((t : Int) - i))) i).val)))), (6, .int (nI i)), (0, .ref (la L k)), (1, .ref (la L i0)), (2, .ref (la L j0)), (3, .int (nI t))]) dX0_becomeRingProduct_54 (by decide) rfl ?_
      refine gIinc (pc := 56) hC (v := (nI (i + 1))) (lv' := [(6, .int (nI (i + 1))), (4, .long (lN (sn (i + 1) (fun i => (F i).val * ((fun i => G (ix n ((t : Int) - i))) i).val)))), (0, .ref (la L k)), (1, .ref (la L i0)), (2, .ref (la L j0)), (3, .int (nI t))]) dX0_becomeRingProduct_56 (q := 1) rfl (nI_1 _) (by decide) rfl ?_
      refine gGoto (pc := 59) hC (tgt := 24) dX0_becomeRingProduct_59 (by decide) ?_
      refine gLoc (lv' := [(6, .int (nI (i + 1))), (4, .long (lN (sn (i + 1) (fun i => (F i).val * ((fun i => G (ix n ((t : Int) - i))) i).val)))), (0, .ref (la L k)), (1, .ref (la L i0)), (2, .ref (la L j0)), (3, .int (nI t))]) [0, 1, 2, 3, 4, 5] rfl ?_
      exact jh ((lN (sn (i + 1) (fun i => (F i).val * ((fun i => G (ix n ((t : Int) - i))) i).val)))) (rfl)

abbrev rmX0_becomePlainProduct : Room := { frames := 2, cells := 0, slots := 0, locals := 44 }
set_option maxRecDepth 100000 in
set_option maxHeartbeats 4000000 in
theorem c_X0_becomePlainProduct (l : Launch) (D : va_G) (L : cLay) (σ : cSt) (k i0 j0 n : Nat) (F G : Nat → Rg) (hk : k < 10) (hi0 : i0 < 10) (hj0 : j0 < 10) (hne : i0 ≠ k) (hnf : j0 ≠ k) (hF : rowIs σ i0 n F) (hG : rowIs σ j0 n G) (hn : n ≤ 8) : gM l yX0_becomePlainProduct wsX0_becomePlainProduct rmX0_becomePlainProduct D (cTy L) (WC L σ) [.ref (la L k), .ref (la L i0), .ref (la L j0)] 0 0 (fun r w => r = none ∧ ∃ σ', w = WC L σ' ∧ cSame σ σ' k ∧ rowIs σ' k (2 * n) (pp n F G)) := by
  refine gM.of (cc := cX0_becomePlainProduct) (maxL := 5) (ret := none) (own := RX0) (by decide) rfl rfl (Nat.le_of_ble_eq_true rfl) rfl ?_
  intro p e s m args below meth c A Q hC hr hnm hQ
  have hin0 : ∀ w ∈ u_ws RX0 TX0 2, w ∈ wsX0_becomePlainProduct := by decide +kernel
  have hl9 : Cond.fieldLink RX0 9 "Rootrows$Row" "numbers" "[I" ∈ wsX0_becomePlainProduct := by decide +kernel
  have hl15 : Cond.fieldLink RX0 15 "Rootrows$Row" "size" "I" ∈ wsX0_becomePlainProduct := by decide +kernel
  refine gAloadN (pc := 0) hC dX0_becomePlainProduct_0 rfl 0 rfl ?_
  refine gIconst (pc := 1) hC (v := (nI 2)) dX0_becomePlainProduct_1 (by decide +kernel) ?_
  refine gAloadN (pc := 2) hC dX0_becomePlainProduct_2 rfl 1 rfl ?_
  refine cGetSize (pc := 3) hC (K := i0) (v := (nI n)) hi0 hin0 hl15 (hF.1) dX0_becomePlainProduct_3 ?_
  refine gImul (pc := 6) hC (v := (nI (2 * n))) dX0_becomePlainProduct_6 (pk_mul _ _) ?_
  refine gV (pc := 7) (rest := []) (ci := 0) (q0 := 2 + 2 * k) hC (c_X0_clear l D L σ k hk (nI (2 * n))) rfl (wc_row hk) (cwV 1 hC.2.2.2.2.1 gX0_becomePlainProduct_X0_clear rfl rfl rfl (by decide +kernel) ⟨Nat.le_of_ble_eq_true rfl, Nat.le_of_ble_eq_true rfl⟩) rfl rfl (Nat.le_of_ble_eq_true rfl) dX0_becomePlainProduct_7 ⟨Nat.le_of_ble_eq_true rfl, Nat.le_of_ble_eq_true rfl⟩ (fun v w1 hp => ?_)
  obtain ⟨rfl, σ', rfl, h1, h2, h3⟩ := hp
  refine gStk (st' := []) (pc' := 10) rfl rfl ?_
  have hF1 := hF.kept h1 hne
  have hG1 := hG.kept h1 hnf
  refine gIconst (pc := 10) hC (v := (nI 0)) dX0_becomePlainProduct_10 (by decide +kernel) ?_
  refine gIstoreN (pc := 11) hC (lv' := [(3, .int (nI 0)), (0, .ref (la L k)), (1, .ref (la L i0)), (2, .ref (la L j0))]) dX0_becomePlainProduct_11 rfl (by decide) rfl ?_
  refine gLoc (lv' := [(3, .int (nI 0)), (0, .ref (la L k)), (1, .ref (la L i0)), (2, .ref (la L j0))]) [0, 1, 2, 3] rfl ?_
  refine loopUp (S := cSt) (fun i ζ => gG p l e rmX0_becomePlainProduct s m args below meth c D A 5 0 0 Q (WC L ζ) 12 [(3, .int (nI i)), (0, .ref (la L k)), (1, .ref (la L i0)), (2, .ref (la L j0))] []) (fun i ζ => cSame σ' ζ k ∧ ζ.2.1 k = nI (2 * n) ∧ ∀ t, t < 2 * n → ζ.2.2 k t = nI (pq n F G i 0 t).val) n ?_ ?_ 0 (σ') (by omega) (⟨cSame.rf σ' k, h2, fun j hj => by rw [h3 j (by omega), pq_00]; rfl⟩)
  · intro ζ hI
    revert hI; generalize ζ = σ1; intro hI
    refine gIloadN (pc := 12) hC dX0_becomePlainProduct_12 rfl 0 rfl ?_
    refine gAloadN (pc := 13) hC dX0_becomePlainProduct_13 rfl 2 rfl ?_
    refine cGetSize (pc := 14) hC (K := i0) (v := (nI n)) hi0 hin0 hl15 ((hF1.kept hI.1 hne).1) dX0_becomePlainProduct_14 ?_
    refine gIcmp_ge (pc := 17) hC (tgt := 81) dX0_becomePlainProduct_17 (by decide) (fun hc1 => ?_) (fun hc1 => absurd (nI_le (Nat.le_refl _) (by omega)) hc1)
    exact gRetV hC hQ hr (Nat.le_of_ble_eq_true rfl) (Nat.le_of_ble_eq_true rfl) dX0_becomePlainProduct_81 (⟨rfl, σ1, rfl, h1.tr hI.1, hI.2.1, fun j hj => by rw [hI.2.2 j hj, pq_end]⟩)
  · intro i ζ hi hI ih
    revert hI; generalize ζ = σ1; intro hI
    refine gIloadN (pc := 12) hC dX0_becomePlainProduct_12 rfl 0 rfl ?_
    refine gAloadN (pc := 13) hC dX0_becomePlainProduct_13 rfl 2 rfl ?_
    refine cGetSize (pc := 14) hC (K := i0) (v := (nI n)) hi0 hin0 hl15 ((hF1.kept hI.1 hne).1) dX0_becomePlainProduct_14 ?_
    refine gIcmp_ge (pc := 17) hC (tgt := 81) dX0_becomePlainProduct_17 (by decide) (fun hc2 => absurd hc2 (nI_ge hi (by omega))) (fun hc2 => ?_)
    refine gIconst (pc := 20) hC (v := (nI 0)) dX0_becomePlainProduct_20 (by decide +kernel) ?_
    refine gIstore (pc := 21) hC (lv' := [(4, .int (nI 0)), (3, .int (nI i)), (0, .ref (la L k)), (1, .ref (la L i0)), (2, .ref (la L j0))]) dX0_becomePlainProduct_21 (by decide) rfl ?_
    have hi1 := hi
    clear hi
    refine gLoc (lv' := [(4, .int (nI 0)), (0, .ref (la L k)), (1, .ref (la L i0)), (2, .ref (la L j0)), (3, .int (nI i))]) [0, 2, 3, 4, 1] rfl ?_
    refine loopUp (S := cSt) (fun j ζ => gG p l e rmX0_becomePlainProduct s m args below meth c D A 5 0 0 Q (WC L ζ) 23 [(4, .int (nI j)), (0, .ref (la L k)), (1, .ref (la L i0)), (2, .ref (la L j0)), (3, .int (nI i))] []) (fun j ζ => cSame σ' ζ k ∧ ζ.2.1 k = nI (2 * n) ∧ ∀ t, t < 2 * n → ζ.2.2 k t = nI (pq n F G i j t).val) n ?_ ?_ 0 (σ1) (by omega) (hI)
    · intro ζ hJ
      revert hJ; generalize ζ = σ2; intro hJ
      refine gIload (pc := 23) hC dX0_becomePlainProduct_23 0 rfl ?_
      refine gAloadN (pc := 25) hC dX0_becomePlainProduct_25 rfl 3 rfl ?_
      refine cGetSize (pc := 26) hC (K := j0) (v := (nI n)) hj0 hin0 hl15 ((hG1.kept hJ.1 hnf).1) dX0_becomePlainProduct_26 ?_
      refine gIcmp_ge (pc := 29) hC (tgt := 75) dX0_becomePlainProduct_29 (by decide) (fun hc3 => ?_) (fun hc3 => absurd (nI_le (Nat.le_refl _) (by omega)) hc3)
      refine gIinc (pc := 75) hC (v := (nI (i + 1))) (lv' := [(3, .int (nI (i + 1))), (4, .int (nI n)), (0, .ref (la L k)), (1, .ref (la L i0)), (2, .ref (la L j0))]) dX0_becomePlainProduct_75 (q := 4) rfl (nI_1 _) (by decide) rfl ?_
      refine gGoto (pc := 78) hC (tgt := 12) dX0_becomePlainProduct_78 (by decide) ?_
      refine gLoc (lv' := [(3, .int (nI (i + 1))), (0, .ref (la L k)), (1, .ref (la L i0)), (2, .ref (la L j0))]) [0, 2, 3, 4] rfl ?_
      exact ih (σ2) (⟨hJ.1, hJ.2.1, fun t ht => by rw [hJ.2.2 t ht, pq_row]⟩)
    · intro j ζ hj hJ jh
      revert hJ; generalize ζ = σ2; intro hJ
      refine gIload (pc := 23) hC dX0_becomePlainProduct_23 0 rfl ?_
      refine gAloadN (pc := 25) hC dX0_becomePlainProduct_25 rfl 3 rfl ?_
      refine cGetSize (pc := 26) hC (K := j0) (v := (nI n)) hj0 hin0 hl15 ((hG1.kept hJ.1 hnf).1) dX0_becomePlainProduct_26 ?_
      refine gIcmp_ge (pc := 29) hC (tgt := 75) dX0_becomePlainProduct_29 (by decide) (fun hc4 => absurd hc4 (nI_ge hj (by omega))) (fun hc4 => ?_)
      refine gAloadN (pc := 32) hC dX0_becomePlainProduct_32 rfl 1 rfl ?_
      refine cGetNums (pc := 33) hC (K := k) hk hin0 hl9 dX0_becomePlainProduct_33 ?_
      refine gIloadN (pc := 36) hC dX0_becomePlainProduct_36 rfl 4 rfl ?_
      refine gIload (pc := 37) hC dX0_becomePlainProduct_37 0 rfl ?_
      refine gIadd (pc := 39) hC (v := (nI (i + j))) dX0_becomePlainProduct_39 (nI_add _ _) ?_
      refine gAloadN (pc := 40) hC dX0_becomePlainProduct_40 rfl 1 rfl ?_
      refine cGetNums (pc := 41) hC (K := k) hk hin0 hl9 dX0_becomePlainProduct_41 ?_
      refine gIloadN (pc := 44) hC dX0_becomePlainProduct_44 rfl 4 rfl ?_
      refine gIload (pc := 45) hC dX0_becomePlainProduct_45 0 rfl ?_
      refine gIadd (pc := 47) hC (v := (nI (i + j))) dX0_becomePlainProduct_47 (nI_add _ _) ?_
      refine cNumLd (pc := 48) hC (K := k) (v := (nI (pq n F G i j (i + j)).val)) hk (i + j) (rfl) (by omega) (hJ.2.2 _ (by omega)) dX0_becomePlainProduct_48 ?_
      refine gAloadN (pc := 49) hC dX0_becomePlainProduct_49 rfl 2 rfl ?_
      refine cGetNums (pc := 50) hC (K := i0) hi0 hin0 hl9 dX0_becomePlainProduct_50 ?_
      refine gIloadN (pc := 53) hC dX0_becomePlainProduct_53 rfl 4 rfl ?_
      refine cNumLd (pc := 54) hC (K := i0) (v := (nI (F i).val)) hi0 i (rfl) (by omega) ((hF1.kept hJ.1 hne).2 _ (by omega)) dX0_becomePlainProduct_54 ?_
      refine gAloadN (pc := 55) hC dX0_becomePlainProduct_55 rfl 3 rfl ?_
      refine cGetNums (pc := 56) hC (K := j0) hj0 hin0 hl9 dX0_becomePlainProduct_56 ?_
      refine gIload (pc := 59) hC dX0_becomePlainProduct_59 0 rfl ?_
      refine cNumLd (pc := 61) hC (K := j0) (v := (nI (G j).val)) hj0 j (rfl) (by omega) ((hG1.kept hJ.1 hnf).2 _ (by omega)) dX0_becomePlainProduct_61 ?_
      refine gSN (pc := 62) (rest := [.int (nI (pq n F G i j (i + j)).val), .int (nI (i + j)), .ref (lb L k)]) hC (c_X1_multiplied l D _ _ _ _ (F i) (G j) rfl rfl) ⟨va_cnB (host := "Rootrows") 2 hC.2.2.2.2.1 gX0_becomePlainProduct_X1_multiplied_n47 rfl rfl rfl (hC.2.2.2.2.2.2.2.1.1 _ (by decide +kernel)) (hC.2.2.2.2.1 (.initialized RX1) (by decide +kernel)) (by decide +kernel) ⟨Nat.le_of_ble_eq_true rfl, Nat.le_of_ble_eq_true rfl⟩, hC.2.2.2.2.1 (.static yX1_multiplied) (by decide +kernel), trivial⟩ rfl rfl (Nat.le_of_ble_eq_true rfl) dX0_becomePlainProduct_62 ⟨Nat.le_of_ble_eq_true rfl, Nat.le_of_ble_eq_true rfl⟩ (fun v w1 hp => ?_)
      obtain ⟨rfl, rfl⟩ := hp
      refine gStk (st' := [.int (nI (F i * G j).val), .int (nI (pq n F G i j (i + j)).val), .int (nI (i + j)), .ref (lb L k)]) (pc' := 65) rfl rfl ?_
      refine gSN (pc := 65) (rest := [.int (nI (i + j)), .ref (lb L k)]) hC (c_X1_added l D _ _ _ _ (pq n F G i j (i + j)) (F i * G j) rfl rfl) ⟨va_cnB (host := "Rootrows") 2 hC.2.2.2.2.1 gX0_becomePlainProduct_X1_added_n51 rfl rfl rfl (hC.2.2.2.2.2.2.2.1.1 _ (by decide +kernel)) (hC.2.2.2.2.1 (.initialized RX1) (by decide +kernel)) (by decide +kernel) ⟨Nat.le_of_ble_eq_true rfl, Nat.le_of_ble_eq_true rfl⟩, hC.2.2.2.2.1 (.static yX1_added) (by decide +kernel), trivial⟩ rfl rfl (Nat.le_of_ble_eq_true rfl) dX0_becomePlainProduct_65 ⟨Nat.le_of_ble_eq_true rfl, Nat.le_of_ble_eq_true rfl⟩ (fun v w1 hp => ?_)
      obtain ⟨rfl, rfl⟩ := hp
      refine gStk (st' := [.int (nI (pq n F G i j (i + j) + F i * G j).val), .int (nI (i + j)), .ref (lb L k)]) (pc' := 68) rfl rfl ?_
      obtain ⟨σ5, eσ5⟩ : ∃ ζ : cSt, ζ = cNm σ2 k (upd (σ2.2.2 k) (i + j) (nI (pq n F G i j (i + j) + F i * G j).val)) := ⟨_, rfl⟩
      refine cNumSt (pc := 68) hC (K := k) hk (i + j) (rfl) (by omega) eσ5 dX0_becomePlainProduct_68 ?_
      refine gIinc (pc := 69) hC (v := (nI (j + 1))) (lv' := [(4, .int (nI (j + 1))), (0, .ref (la L k)), (1, .ref (la L i0)), (2, .ref (la L j0)), (3, .int (nI i))]) dX0_becomePlainProduct_69 (q := 0) rfl (nI_1 _) (by decide) rfl ?_
      refine gGoto (pc := 72) hC (tgt := 23) dX0_becomePlainProduct_72 (by decide) ?_
      refine gLoc (lv' := [(4, .int (nI (j + 1))), (0, .ref (la L k)), (1, .ref (la L i0)), (2, .ref (la L j0)), (3, .int (nI i))]) [0, 1, 2, 3, 4] rfl ?_
      exact jh (σ5) (by subst eσ5; exact ⟨hJ.1.tr (cSame.nm _ _ _), hJ.2.1, fun t ht => by rw [cNm_at]; by_cases q : t = i + j; (subst q; rw [upd_at, pq_in]); rw [upd_ne _ _ q, pq_out n F G q]; exact hJ.2.2 t ht⟩)

abbrev rmX1_isPowerOfTwo : Room := { frames := 0, cells := 0, slots := 0, locals := 0 }
set_option maxRecDepth 100000 in
set_option maxHeartbeats 4000000 in
theorem c_X1_isPowerOfTwo (l : Launch) (D : va_G) (tys : List (ClassId × FieldType)) (ws : va_W) (x : Int32) : gM l yX1_isPowerOfTwo wsX1_isPowerOfTwo rmX1_isPowerOfTwo D tys ws [.int x] 0 0 (fun r w => w = ws ∧ ∃ b : Int32, r = some (.int b) ∧ ((b = nI 1 ∧ ∃ n, okN n ∧ x = nI n) ∨ (b = nI 0 ∧ ∀ n, okN n → x ≠ nI n))) := by
  refine gM.of (cc := cX1_isPowerOfTwo) (maxL := 1) (ret := (some .boolean)) (own := RX1) (by decide) rfl rfl (Nat.le_of_ble_eq_true rfl) rfl ?_
  intro p e s m args below meth c A Q hC hr hnm hQ
  refine gIloadN (pc := 0) hC dX1_isPowerOfTwo_0 rfl 0 rfl ?_
  refine gIconst (pc := 1) hC (v := (nI 1)) dX1_isPowerOfTwo_1 (by decide +kernel) ?_
  refine gIcmp_eq (pc := 2) hC (tgt := 27) dX1_isPowerOfTwo_2 (by decide) (fun hc1 => ?_) (fun hc1 => ?_)
  · skip
    refine gIconst (pc := 27) hC (v := (nI 1)) dX1_isPowerOfTwo_27 (by decide +kernel) ?_
    refine gGoto (pc := 28) hC (tgt := 32) dX1_isPowerOfTwo_28 (by decide) ?_
    exact gRetZ hC hQ hr (rfl) (Nat.le_of_ble_eq_true rfl) (Nat.le_of_ble_eq_true rfl) dX1_isPowerOfTwo_32 (⟨rfl, nI 1, rfl, Or.inl ⟨rfl, 1, by unfold okN; omega, hc1⟩⟩)
  · skip
    refine gIloadN (pc := 5) hC dX1_isPowerOfTwo_5 rfl 0 rfl ?_
    refine gIconst (pc := 6) hC (v := (nI 2)) dX1_isPowerOfTwo_6 (by decide +kernel) ?_
    refine gIcmp_eq (pc := 7) hC (tgt := 27) dX1_isPowerOfTwo_7 (by decide) (fun hc2 => ?_) (fun hc2 => ?_)
    · skip
      refine gIconst (pc := 27) hC (v := (nI 1)) dX1_isPowerOfTwo_27 (by decide +kernel) ?_
      refine gGoto (pc := 28) hC (tgt := 32) dX1_isPowerOfTwo_28 (by decide) ?_
      exact gRetZ hC hQ hr (rfl) (Nat.le_of_ble_eq_true rfl) (Nat.le_of_ble_eq_true rfl) dX1_isPowerOfTwo_32 (⟨rfl, nI 1, rfl, Or.inl ⟨rfl, 2, by unfold okN; omega, hc2⟩⟩)
    · skip
      refine gIloadN (pc := 10) hC dX1_isPowerOfTwo_10 rfl 0 rfl ?_
      refine gIconst (pc := 11) hC (v := (nI 4)) dX1_isPowerOfTwo_11 (by decide +kernel) ?_
      refine gIcmp_eq (pc := 12) hC (tgt := 27) dX1_isPowerOfTwo_12 (by decide) (fun hc3 => ?_) (fun hc3 => ?_)
      · skip
        refine gIconst (pc := 27) hC (v := (nI 1)) dX1_isPowerOfTwo_27 (by decide +kernel) ?_
        refine gGoto (pc := 28) hC (tgt := 32) dX1_isPowerOfTwo_28 (by decide) ?_
        exact gRetZ hC hQ hr (rfl) (Nat.le_of_ble_eq_true rfl) (Nat.le_of_ble_eq_true rfl) dX1_isPowerOfTwo_32 (⟨rfl, nI 1, rfl, Or.inl ⟨rfl, 4, by unfold okN; omega, hc3⟩⟩)
      · skip
        refine gIloadN (pc := 15) hC dX1_isPowerOfTwo_15 rfl 0 rfl ?_
        refine gBipush (pc := 16) hC (v := (nI 8)) dX1_isPowerOfTwo_16 (by decide +kernel) ?_
        refine gIcmp_eq (pc := 18) hC (tgt := 27) dX1_isPowerOfTwo_18 (by decide) (fun hc4 => ?_) (fun hc4 => ?_)
        · skip
          refine gIconst (pc := 27) hC (v := (nI 1)) dX1_isPowerOfTwo_27 (by decide +kernel) ?_
          refine gGoto (pc := 28) hC (tgt := 32) dX1_isPowerOfTwo_28 (by decide) ?_
          exact gRetZ hC hQ hr (rfl) (Nat.le_of_ble_eq_true rfl) (Nat.le_of_ble_eq_true rfl) dX1_isPowerOfTwo_32 (⟨rfl, nI 1, rfl, Or.inl ⟨rfl, 8, by unfold okN; omega, hc4⟩⟩)
        · skip
          refine gIloadN (pc := 21) hC dX1_isPowerOfTwo_21 rfl 0 rfl ?_
          refine gBipush (pc := 22) hC (v := (nI 16)) dX1_isPowerOfTwo_22 (by decide +kernel) ?_
          refine gIcmp_ne (pc := 24) hC (tgt := 31) dX1_isPowerOfTwo_24 (by decide) (fun hc5 => ?_) (fun hc5 => ?_)
          · skip
            refine gIconst (pc := 31) hC (v := (nI 0)) dX1_isPowerOfTwo_31 (by decide +kernel) ?_
            exact gRetZ hC hQ hr (rfl) (Nat.le_of_ble_eq_true rfl) (Nat.le_of_ble_eq_true rfl) dX1_isPowerOfTwo_32 (⟨rfl, nI 0, rfl, Or.inr ⟨rfl, fun n h hx => by rcases h with rfl | rfl | rfl | rfl | rfl <;> first | exact hc5 hx | exact hc1 hx | exact hc2 hx | exact hc3 hx | exact hc4 hx⟩⟩)
          · skip
            refine gIconst (pc := 27) hC (v := (nI 1)) dX1_isPowerOfTwo_27 (by decide +kernel) ?_
            refine gGoto (pc := 28) hC (tgt := 32) dX1_isPowerOfTwo_28 (by decide) ?_
            exact gRetZ hC hQ hr (rfl) (Nat.le_of_ble_eq_true rfl) (Nat.le_of_ble_eq_true rfl) dX1_isPowerOfTwo_32 (⟨rfl, nI 1, rfl, Or.inl ⟨rfl, 16, by unfold okN; omega, hc5⟩⟩)

abbrev rmX1_twoTo : Room := { frames := 0, cells := 0, slots := 0, locals := 0 }
set_option maxRecDepth 100000 in
set_option maxHeartbeats 4000000 in
theorem c_X1_twoTo (l : Launch) (D : va_G) (tys : List (ClassId × FieldType)) (ws : va_W) (x : Int32) (z : Int) (hz : x.toInt % 4294967296 = z % 4294967296) : gM l yX1_twoTo wsX1_twoTo rmX1_twoTo D tys ws [.int x] 0 0 (fun r w => w = ws ∧ r = some (.int (nI (pz z).val))) := by
  refine gM.of (cc := cX1_twoTo) (maxL := 2) (ret := (some .int)) (own := RX1) (by decide) rfl rfl (Nat.le_of_ble_eq_true rfl) rfl ?_
  intro p e s m args below meth c A Q hC hr hnm hQ
  obtain ⟨t, ht, et, ez⟩ := j_two x
  refine gIloadN (pc := 0) hC dX1_twoTo_0 rfl 0 rfl ?_
  refine gBipush (pc := 1) hC (v := (nI 31)) dX1_twoTo_1 (by decide +kernel) ?_
  refine gIand (pc := 3) hC (v := (nI t)) dX1_twoTo_3 (et) ?_
  refine gIstoreN (pc := 4) hC (lv' := [(1, .int (nI t)), (0, .int x)]) dX1_twoTo_4 rfl (by decide) rfl ?_
  refine gIloadN (pc := 5) hC dX1_twoTo_5 rfl 0 rfl ?_
  refine gBipush (pc := 6) hC (v := (nI 16)) dX1_twoTo_6 (by decide +kernel) ?_
  refine gIcmp_ge (pc := 8) hC (tgt := 17) dX1_twoTo_8 (by decide) (fun hc1 => ?_) (fun hc1 => ?_)
  · skip
    have h16 : 16 ≤ t := by
      rcases Nat.lt_or_ge t 16 with q | q
      · exact absurd hc1 (nI_ge q (by decide))
      · exact q
    refine gLdc (pc := 17) hC (v := 65537) dX1_twoTo_17 (by decide +kernel) ?_
    refine gIconst (pc := 19) hC (v := (nI 1)) dX1_twoTo_19 (by decide +kernel) ?_
    refine gIloadN (pc := 20) hC dX1_twoTo_20 rfl 0 rfl ?_
    refine gBipush (pc := 21) hC (v := (nI 16)) dX1_twoTo_21 (by decide +kernel) ?_
    refine gIsub (pc := 23) hC dX1_twoTo_23 rfl ?_
    refine gIshl (pc := 24) hC dX1_twoTo_24 rfl ?_
    refine gIsub (pc := 25) hC (v := (nI (pz z).val)) dX1_twoTo_25 ((j_two2 h16 ht).trans (by rw [j_pz hz ez])) ?_
    exact gRetI hC hQ hr (Nat.le_of_ble_eq_true rfl) (Nat.le_of_ble_eq_true rfl) dX1_twoTo_26 (⟨rfl, rfl⟩)
  · skip
    have h16 : t < 16 := by
      rcases Nat.lt_or_ge t 16 with q | q
      · exact q
      · exact absurd (nI_le q (by omega)) hc1
    refine gIconst (pc := 11) hC (v := (nI 1)) dX1_twoTo_11 (by decide +kernel) ?_
    refine gIloadN (pc := 12) hC dX1_twoTo_12 rfl 0 rfl ?_
    refine gIshl (pc := 13) hC (v := (nI (pz z).val)) dX1_twoTo_13 ((j_two1 h16).trans (by rw [j_pz hz ez])) ?_
    refine gGoto (pc := 14) hC (tgt := 26) dX1_twoTo_14 (by decide) ?_
    exact gRetI hC hQ hr (Nat.le_of_ble_eq_true rfl) (Nat.le_of_ble_eq_true rfl) dX1_twoTo_26 (⟨rfl, rfl⟩)

abbrev rmX1_inverseOf : Room := { frames := 2, cells := 0, slots := 0, locals := 42 }
set_option maxRecDepth 100000 in
set_option maxHeartbeats 4000000 in
theorem c_X1_inverseOf (l : Launch) (D : va_G) (tys : List (ClassId × FieldType)) (ws : va_W) (x : Int32) (u : Rg) (hx : x = nI u.val) : gM l yX1_inverseOf wsX1_inverseOf rmX1_inverseOf D tys ws [.int x] 0 0 (fun r w => w = ws ∧ r = some (.int (nI (iv u).val))) := by
  refine gM.of (cc := cX1_inverseOf) (maxL := 4) (ret := (some .int)) (own := RX1) (by decide) rfl rfl (Nat.le_of_ble_eq_true rfl) rfl ?_
  intro p e s m args below meth c A Q hC hr hnm hQ
  refine gIconst (pc := 0) hC (v := (nI 1)) dX1_inverseOf_0 (by decide +kernel) ?_
  refine gIstoreN (pc := 1) hC (lv' := [(1, .int (nI 1)), (0, .int x)]) dX1_inverseOf_1 rfl (by decide) rfl ?_
  refine gIloadN (pc := 2) hC dX1_inverseOf_2 rfl 1 rfl ?_
  refine gIstoreN (pc := 3) hC (lv' := [(2, .int x), (1, .int (nI 1)), (0, .int x)]) dX1_inverseOf_3 rfl (by decide) rfl ?_
  refine gIconst (pc := 4) hC (v := (nI 0)) dX1_inverseOf_4 (by decide +kernel) ?_
  refine gIstoreN (pc := 5) hC (lv' := [(3, .int (nI 0)), (2, .int x), (1, .int (nI 1)), (0, .int x)]) dX1_inverseOf_5 rfl (by decide) rfl ?_
  refine gLoc (lv' := [(3, .int (nI 0)), (1, .int (nI 1)), (2, .int x), (0, .int x)]) [0, 2, 1, 3] rfl ?_
  refine loopUp (S := (Int32 × Int32)) (fun i ζ => gG p l e rmX1_inverseOf s m args below meth c D A 4 0 0 Q ws 6 [(3, .int (nI i)), (1, .int (ζ.1)), (2, .int (ζ.2)), (0, .int x)] []) (fun i ζ => ζ.1 = nI (ivs u i).1.val ∧ ζ.2 = nI (ivs u i).2.val) 16 ?_ ?_ 0 ((nI 1), x) (by omega) (⟨rfl, hx⟩)
  · intro ζ hI
    obtain ⟨c1, c2⟩ := ζ
    try dsimp only at hI ⊢
    refine gIloadN (pc := 6) hC dX1_inverseOf_6 rfl 0 rfl ?_
    refine gBipush (pc := 7) hC (v := (nI 16)) dX1_inverseOf_7 (by decide +kernel) ?_
    refine gIcmp_ge (pc := 9) hC (tgt := 30) dX1_inverseOf_9 (by decide) (fun hc1 => ?_) (fun hc1 => absurd (nI_le (Nat.le_refl _) (by decide)) hc1)
    refine gIloadN (pc := 30) hC dX1_inverseOf_30 rfl 1 rfl ?_
    exact gRetI hC hQ hr (Nat.le_of_ble_eq_true rfl) (Nat.le_of_ble_eq_true rfl) dX1_inverseOf_31 (⟨rfl, by rw [hI.1]; rfl⟩)
  · intro i ζ hi hI ih
    obtain ⟨c1, c2⟩ := ζ
    try dsimp only at hI ih ⊢
    refine gIloadN (pc := 6) hC dX1_inverseOf_6 rfl 0 rfl ?_
    refine gBipush (pc := 7) hC (v := (nI 16)) dX1_inverseOf_7 (by decide +kernel) ?_
    refine gIcmp_ge (pc := 9) hC (tgt := 30) dX1_inverseOf_9 (by decide) (fun hc2 => absurd hc2 (nI_ge hi (by decide))) (fun hc2 => ?_)
    refine gIloadN (pc := 12) hC dX1_inverseOf_12 rfl 1 rfl ?_
    refine gIloadN (pc := 13) hC dX1_inverseOf_13 rfl 2 rfl ?_
    refine gS (pc := 14) (rest := []) hC (c_X1_multiplied l D _ _ _ _ (ivs u i).1 (ivs u i).2 hI.1 hI.2) (va_cwS 2 hC.2.2.2.2.1 gX1_inverseOf_X1_multiplied rfl rfl rfl (by decide +kernel) ⟨Nat.le_of_ble_eq_true rfl, Nat.le_of_ble_eq_true rfl⟩) rfl rfl (Nat.le_of_ble_eq_true rfl) dX1_inverseOf_14 ⟨Nat.le_of_ble_eq_true rfl, Nat.le_of_ble_eq_true rfl⟩ (fun v w1 hp => ?_)
    obtain ⟨rfl, rfl⟩ := hp
    refine gStk (st' := [.int (nI ((ivs u i).1 * (ivs u i).2).val)]) (pc' := 17) rfl rfl ?_
    refine gIstoreN (pc := 17) hC (lv' := [(1, .int (nI ((ivs u i).1 * (ivs u i).2).val)), (3, .int (nI i)), (2, .int c2), (0, .int x)]) dX1_inverseOf_17 rfl (by decide) rfl ?_
    refine gIloadN (pc := 18) hC dX1_inverseOf_18 rfl 2 rfl ?_
    refine gIloadN (pc := 19) hC dX1_inverseOf_19 rfl 2 rfl ?_
    refine gS (pc := 20) (rest := []) hC (c_X1_multiplied l D _ _ _ _ (ivs u i).2 (ivs u i).2 hI.2 hI.2) (va_cwS 2 hC.2.2.2.2.1 gX1_inverseOf_X1_multiplied rfl rfl rfl (by decide +kernel) ⟨Nat.le_of_ble_eq_true rfl, Nat.le_of_ble_eq_true rfl⟩) rfl rfl (Nat.le_of_ble_eq_true rfl) dX1_inverseOf_20 ⟨Nat.le_of_ble_eq_true rfl, Nat.le_of_ble_eq_true rfl⟩ (fun v w1 hp => ?_)
    obtain ⟨rfl, rfl⟩ := hp
    refine gStk (st' := [.int (nI ((ivs u i).2 * (ivs u i).2).val)]) (pc' := 23) rfl rfl ?_
    refine gIstoreN (pc := 23) hC (lv' := [(2, .int (nI ((ivs u i).2 * (ivs u i).2).val)), (1, .int (nI ((ivs u i).1 * (ivs u i).2).val)), (3, .int (nI i)), (0, .int x)]) dX1_inverseOf_23 rfl (by decide) rfl ?_
    refine gIinc (pc := 24) hC (v := (nI (i + 1))) (lv' := [(3, .int (nI (i + 1))), (2, .int (nI ((ivs u i).2 * (ivs u i).2).val)), (1, .int (nI ((ivs u i).1 * (ivs u i).2).val)), (0, .int x)]) dX1_inverseOf_24 (q := 2) rfl (nI_1 _) (by decide) rfl ?_
    refine gGoto (pc := 27) hC (tgt := 6) dX1_inverseOf_27 (by decide) ?_
    refine gLoc (lv' := [(3, .int (nI (i + 1))), (1, .int (nI ((ivs u i).1 * (ivs u i).2).val)), (2, .int (nI ((ivs u i).2 * (ivs u i).2).val)), (0, .int x)]) [0, 2, 1, 3] rfl ?_
    exact ih ((nI ((ivs u i).1 * (ivs u i).2).val), (nI ((ivs u i).2 * (ivs u i).2).val)) (⟨rfl, rfl⟩)

theorem lk {p : Program} {l : Launch} {e : Env} {R : Room} {s : State} {m : MethodId} {args : Array Value} {below : List Frame} {meth : Method} {c : Code} {cc : ByteArray} {nL k n pc : Nat} {own : String} {Ts : List Cond} {D : va_G} {tys : List (ClassId × FieldType)} {A : Nat → Prop} {Q : State → Prop} {ws : va_W} {lv : List (Nat × Value)} {st : List Value} (hC : gC p s m args meth c cc nL own Ts D tys A) {dflt : Int} {ps : Array (Int × Int)} {len : Nat} {x : Int32} {off : Int} {tgt : Nat} (d : decode cc pc = .ok (.lookupswitch dflt ps, len)) (hp : (ps.toList.zip (ps.toList.drop 1)).all (fun (a, next) => a.1 < next.1) = true) (ho : Op.lookupswitch.offset ps.toList dflt x.toInt = off) (ht : (pc : Int) + off = (tgt : Int)) (kk : gG p l e R s m args below meth c D A nL k n Q ws tgt lv st) : gG p l e R s m args below meth c D A nL k n Q ws pc lv (.int x :: st) := fun H locs ls hP hD hS hl => lv_lookup hC.1 hC.2.1 d hp ho ht (kk H locs ls hP hD hS hl)

abbrev rmX1_stepOf : Room := { frames := 0, cells := 0, slots := 0, locals := 0 }
set_option maxRecDepth 100000 in
set_option maxHeartbeats 4000000 in
theorem c_X1_stepOf (l : Launch) (D : va_G) (tys : List (ClassId × FieldType)) (ws : va_W) (n : Nat) (hn : okN n) : gM l yX1_stepOf wsX1_stepOf rmX1_stepOf D tys ws [.int (nI n)] 0 0 (fun r w => w = ws ∧ r = some (.int (nI (st32 n)))) := by
  refine gM.of (cc := cX1_stepOf) (maxL := 1) (ret := (some .int)) (own := RX1) (by decide) rfl rfl (Nat.le_of_ble_eq_true rfl) rfl ?_
  intro p e s m args below meth c A Q hC hr hnm hQ
  refine gIloadN (pc := 0) hC dX1_stepOf_0 rfl 0 rfl ?_
  rcases hn with rfl | rfl | rfl | rfl | rfl
  · skip
    refine lk (x := nI 1) (off := 53) (tgt := 54) hC dX1_stepOf_1 (by decide) (by decide +kernel) (by decide) ?_
    refine gBipush (pc := 54) hC (v := (nI 32)) dX1_stepOf_54 (by decide +kernel) ?_
    exact gRetI hC hQ hr (Nat.le_of_ble_eq_true rfl) (Nat.le_of_ble_eq_true rfl) dX1_stepOf_56 (⟨rfl, rfl⟩)
  · skip
    refine lk (x := nI 2) (off := 43) (tgt := 44) hC dX1_stepOf_1 (by decide) (by decide +kernel) (by decide) ?_
    refine gBipush (pc := 44) hC (v := (nI 16)) dX1_stepOf_44 (by decide +kernel) ?_
    exact gRetI hC hQ hr (Nat.le_of_ble_eq_true rfl) (Nat.le_of_ble_eq_true rfl) dX1_stepOf_46 (⟨rfl, rfl⟩)
  · skip
    refine lk (x := nI 4) (off := 46) (tgt := 47) hC dX1_stepOf_1 (by decide) (by decide +kernel) (by decide) ?_
    refine gBipush (pc := 47) hC (v := (nI 8)) dX1_stepOf_47 (by decide +kernel) ?_
    exact gRetI hC hQ hr (Nat.le_of_ble_eq_true rfl) (Nat.le_of_ble_eq_true rfl) dX1_stepOf_49 (⟨rfl, rfl⟩)
  · skip
    refine lk (x := nI 8) (off := 49) (tgt := 50) hC dX1_stepOf_1 (by decide) (by decide +kernel) (by decide) ?_
    refine gIconst (pc := 50) hC (v := (nI 4)) dX1_stepOf_50 (by decide +kernel) ?_
    exact gRetI hC hQ hr (Nat.le_of_ble_eq_true rfl) (Nat.le_of_ble_eq_true rfl) dX1_stepOf_51 (⟨rfl, rfl⟩)
  · skip
    refine lk (x := nI 16) (off := 51) (tgt := 52) hC dX1_stepOf_1 (by decide) (by decide +kernel) (by decide) ?_
    refine gIconst (pc := 52) hC (v := (nI 2)) dX1_stepOf_52 (by decide +kernel) ?_
    exact gRetI hC hQ hr (Nat.le_of_ble_eq_true rfl) (Nat.le_of_ble_eq_true rfl) dX1_stepOf_53 (⟨rfl, rfl⟩)

/-- a square root of the length -/
def osc (n : Nat) : Nat := if n = 2 then 4080 else if n = 4 then 2 else if n = 8 then 8160 else 4
theorem osc_lt (n : Nat) : osc n < 65537 := by unfold osc; split; decide; split; decide; split <;> decide

abbrev rmX1_ownScale : Room := { frames := 0, cells := 0, slots := 0, locals := 0 }
set_option maxRecDepth 100000 in
set_option maxHeartbeats 4000000 in
theorem c_X1_ownScale (l : Launch) (D : va_G) (tys : List (ClassId × FieldType)) (ws : va_W) (n : Nat) (hn : n = 2 ∨ n = 4 ∨ n = 8 ∨ n = 16) : gM l yX1_ownScale wsX1_ownScale rmX1_ownScale D tys ws [.int (nI n)] 0 0 (fun r w => w = ws ∧ r = some (.int (nI (osc n)))) := by
  refine gM.of (cc := cX1_ownScale) (maxL := 1) (ret := (some .int)) (own := RX1) (by decide) rfl rfl (Nat.le_of_ble_eq_true rfl) rfl ?_
  intro p e s m args below meth c A Q hC hr hnm hQ
  refine gIloadN (pc := 0) hC dX1_ownScale_0 rfl 0 rfl ?_
  rcases hn with rfl | rfl | rfl | rfl
  · skip
    refine lk (x := nI 2) (off := 35) (tgt := 36) hC dX1_ownScale_1 (by decide) (by decide +kernel) (by decide) ?_
    refine gSipush (pc := 36) hC (v := (nI 4080)) dX1_ownScale_36 (by decide +kernel) ?_
    exact gRetI hC hQ hr (Nat.le_of_ble_eq_true rfl) (Nat.le_of_ble_eq_true rfl) dX1_ownScale_39 (⟨rfl, rfl⟩)
  · skip
    refine lk (x := nI 4) (off := 39) (tgt := 40) hC dX1_ownScale_1 (by decide) (by decide +kernel) (by decide) ?_
    refine gIconst (pc := 40) hC (v := (nI 2)) dX1_ownScale_40 (by decide +kernel) ?_
    exact gRetI hC hQ hr (Nat.le_of_ble_eq_true rfl) (Nat.le_of_ble_eq_true rfl) dX1_ownScale_41 (⟨rfl, rfl⟩)
  · skip
    refine lk (x := nI 8) (off := 41) (tgt := 42) hC dX1_ownScale_1 (by decide) (by decide +kernel) (by decide) ?_
    refine gSipush (pc := 42) hC (v := (nI 8160)) dX1_ownScale_42 (by decide +kernel) ?_
    exact gRetI hC hQ hr (Nat.le_of_ble_eq_true rfl) (Nat.le_of_ble_eq_true rfl) dX1_ownScale_45 (⟨rfl, rfl⟩)
  · skip
    refine lk (x := nI 16) (off := 45) (tgt := 46) hC dX1_ownScale_1 (by decide) (by decide +kernel) (by decide) ?_
    refine gIconst (pc := 46) hC (v := (nI 4)) dX1_ownScale_46 (by decide +kernel) ?_
    exact gRetI hC hQ hr (Nat.le_of_ble_eq_true rfl) (Nat.le_of_ble_eq_true rfl) dX1_ownScale_47 (⟨rfl, rfl⟩)

theorem hz_root {o n : Nat} {x : Int32} {z : Int} (hz : x.toInt % 4294967296 = z % 4294967296) : (nI o * nI (st32 n) * x).toInt % 4294967296 = (un o n * z) % 4294967296 := by
  rw [j_mulI, pk_mul, Int.mul_emod, hz, show (nI (o * st32 n)).toInt % 4294967296 = (un o n) % 4294967296 from ?_, ← Int.mul_emod]
  unfold un
  rw [show nI (o * st32 n) = Int32.ofInt ((o * st32 n : Nat) : Int) from rfl, Int32.toInt_ofInt, Int.natCast_mul]
  exact Int.bmod_emod

abbrev rmX1_rootTo : Room := { frames := 1, cells := 0, slots := 0, locals := 21 }
set_option maxRecDepth 100000 in
set_option maxHeartbeats 4000000 in
theorem c_X1_rootTo (l : Launch) (D : va_G) (L : cLay) (σ : cSt) (n o : Nat) (x : Int32) (z : Int) (hn : okN n) (ho : σ.1 = nI o) (hz : x.toInt % 4294967296 = z % 4294967296) : gM l yX1_rootTo wsX1_rootTo rmX1_rootTo D (cTy L) (WC L σ) [.ref (lx L), .int (nI n), .int x] 0 0 (fun r w => w = WC L σ ∧ r = some (.int (nI (pz (un o n * z)).val))) := by
  refine gM.of (cc := cX1_rootTo) (maxL := 3) (ret := (some .int)) (own := RX1) (by decide) rfl rfl (Nat.le_of_ble_eq_true rfl) rfl ?_
  intro p e s m args below meth c A Q hC hr hnm hQ
  have hin1 : ∀ w ∈ u_ws RX1 TX1 8, w ∈ wsX1_rootTo := by decide +kernel
  have hl35 : Cond.fieldLink RX1 35 "Rootrows" "odd" "I" ∈ wsX1_rootTo := by decide +kernel
  refine gAloadN (pc := 0) hC dX1_rootTo_0 rfl 0 rfl ?_
  refine cGetOdd (pc := 1) hC hin1 hl35 rfl dX1_rootTo_1 ?_
  refine gIloadN (pc := 4) hC dX1_rootTo_4 rfl 1 rfl ?_
  refine gS (pc := 5) (rest := [.int (σ.1)]) hC (c_X1_stepOf l D _ _ n hn) (va_cwS 1 hC.2.2.2.2.1 gX1_rootTo_X1_stepOf rfl rfl rfl (by decide +kernel) ⟨Nat.le_of_ble_eq_true rfl, Nat.le_of_ble_eq_true rfl⟩) rfl rfl (Nat.le_of_ble_eq_true rfl) dX1_rootTo_5 ⟨Nat.le_of_ble_eq_true rfl, Nat.le_of_ble_eq_true rfl⟩ (fun v w1 hp => ?_)
  obtain ⟨rfl, rfl⟩ := hp
  refine gStk (st' := [.int (nI (st32 n)), .int (σ.1)]) (pc' := 8) rfl rfl ?_
  refine gImul (pc := 8) hC dX1_rootTo_8 rfl ?_
  refine gIloadN (pc := 9) hC dX1_rootTo_9 rfl 2 rfl ?_
  refine gImul (pc := 10) hC dX1_rootTo_10 rfl ?_
  refine gS (pc := 11) (rest := []) hC (c_X1_twoTo l D _ _ _ (un o n * z) (by rw [ho]; exact hz_root hz)) (va_cwS 1 hC.2.2.2.2.1 gX1_rootTo_X1_twoTo rfl rfl rfl (by decide +kernel) ⟨Nat.le_of_ble_eq_true rfl, Nat.le_of_ble_eq_true rfl⟩) rfl rfl (Nat.le_of_ble_eq_true rfl) dX1_rootTo_11 ⟨Nat.le_of_ble_eq_true rfl, Nat.le_of_ble_eq_true rfl⟩ (fun v w1 hp => ?_)
  obtain ⟨rfl, rfl⟩ := hp
  refine gStk (st' := [.int (nI (pz (un o n * z)).val)]) (pc' := 14) rfl rfl ?_
  exact gRetI hC hQ hr (Nat.le_of_ble_eq_true rfl) (Nat.le_of_ble_eq_true rfl) dX1_rootTo_14 (⟨rfl, rfl⟩)
