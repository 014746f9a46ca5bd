abbrev rmX1_values : Room := { frames := 7, cells := 1, slots := 6, locals := 105 }
set_option maxRecDepth 100000 in
set_option maxHeartbeats 4000000 in
theorem c_X1_values (l : Launch) (D : va_G) (L : cLay) (σ : cSt) (Δ : dSt) (x : Int32) (y : Int32) (hR : cRel σ Δ)  : gX l yX1_values wsX1_values rmX1_values D (cTy L) (WC L σ) [.ref (lx L), .int x, .int y] 1 6 (fun r w => kk1 (okR x) = 0 ∧ r = some (.int (nI (cz (ps (Δ.2.1 (rI x)) (un Δ.1 (Δ.2.1 (rI x))) 1 (Δ.2.2 (rI x))) (Δ.2.1 (rI x))))) ∧ ∃ σ', w = WC L σ' ∧ cRel σ' (dRow Δ (rI x) (Δ.2.1 (rI x)) (ps (Δ.2.1 (rI x)) (un Δ.1 (Δ.2.1 (rI x))) 1 (Δ.2.2 (rI x))))) (fun E w => ∃ σ', w = WC L σ' ∧ cRel σ' Δ ∧ ((E = XI ∧ kk1 (okR x) = 1))) := by
  refine gX.of (cc := cX1_values) (maxL := 4) (ret := (some .int)) (own := RX1) (by decide) rfl rfl (Nat.le_of_ble_eq_true rfl) rfl ?_
  intro p e s m args below meth c A Q hC hr hQ hEx hl9
  have hin1 : ∀ w ∈ u_ws RX1 TX1 8, w ∈ wsX1_values := by decide +kernel
  have hl29 : Cond.fieldLink RX1 29 "Rootrows" "found" "LRootrows$Row;" ∈ wsX1_values := by decide +kernel
  refine gAloadN (pc := 0) hC dX1_values_0 rfl 0 rfl ?_
  refine gIloadN (pc := 1) hC dX1_values_1 rfl 1 rfl ?_
  refine gVX (pc := 2) (rest := []) (ci := 1) (q0 := 0) hC hEx hl9 (c_X1_rowAt l D L σ x) rfl rfl (cwV 1 hC.2.2.2.2.1 gX1_values_X1_rowAt rfl rfl rfl (by decide +kernel) ⟨Nat.le_of_ble_eq_true rfl, Nat.le_of_ble_eq_true rfl⟩) rfl rfl (Nat.le_of_ble_eq_true rfl) dX1_values_2 ⟨Nat.le_of_ble_eq_true rfl, Nat.le_of_ble_eq_true rfl⟩ hQ (Nat.le_of_ble_eq_true rfl) (Nat.le_of_ble_eq_true rfl) (fun E w1 h => ⟨_, h.2.1, hR, ⟨h.1, kk1_1 h.2.2⟩⟩) (fun v w1 hp => ?_)
  obtain ⟨ok, rfl, rfl⟩ := hp
  refine gStk (st' := [.ref (la L (rI x))]) (pc' := 5) rfl rfl ?_
  obtain ⟨hi, ei⟩ := ok.get
  obtain ⟨hl_, hF⟩ := hR.2.2 (rI x) hi
  have hN := hl_.N
  have hL := hN.le
  refine gAstoreN (pc := 5) hC (lv' := [(3, .ref (la L (rI x))), (0, .ref (lx L)), (1, .int x), (2, .int y)]) dX1_values_5 rfl (by decide) rfl ?_
  refine gIloadN (pc := 6) hC dX1_values_6 rfl 3 rfl ?_
  refine gIf_eq (pc := 7) hC (tgt := 22) dX1_values_7 (by decide) (fun hc1 => ?_) (fun hc1 => ?_)
  · skip
    refine gAloadN (pc := 22) hC dX1_values_22 rfl 1 rfl ?_
    refine gAloadN (pc := 23) hC dX1_values_23 rfl 0 rfl ?_
    refine gAloadN (pc := 24) hC dX1_values_24 rfl 1 rfl ?_
    refine cGetRow (pc := 25) hC 5 (by decide) rfl hin1 hl29 dX1_values_25 ?_
    refine gV (pc := 28) (rest := []) (ci := 1) (q0 := 0) hC (c_X1_plainValues l D L σ (rI x) 8 (Δ.2.1 (rI x)) Δ.1 (Δ.2.2 (rI x)) (by decide) (by omega) (by omega) hF hN hR.1) rfl rfl (cwV 2 hC.2.2.2.2.1 gX1_values_X1_plainValues rfl rfl rfl (by decide +kernel) ⟨Nat.le_of_ble_eq_true rfl, Nat.le_of_ble_eq_true rfl⟩) rfl rfl (Nat.le_of_ble_eq_true rfl) dX1_values_28 ⟨Nat.le_of_ble_eq_true rfl, Nat.le_of_ble_eq_true rfl⟩ (fun v w1 hp => ?_)
    obtain ⟨rfl, τ1, rfl, k1, f1⟩ := hp
    refine gStk (st' := []) (pc' := 31) rfl rfl ?_
    refine gAloadN (pc := 31) hC dX1_values_31 rfl 0 rfl ?_
    refine gAloadN (pc := 32) hC dX1_values_32 rfl 1 rfl ?_
    refine cGetRow (pc := 33) hC 5 (by decide) rfl hin1 hl29 dX1_values_33 ?_
    refine gS (pc := 36) (rest := []) hC (c_X1_zerosAsNow l D L τ1 (rI x) 8 (Δ.2.1 (rI x)) (ps (Δ.2.1 (rI x)) (un Δ.1 (Δ.2.1 (rI x))) 1 (Δ.2.2 (rI x))) (by omega) (by decide) f1 (by omega)) (va_cwS 2 hC.2.2.2.2.1 gX1_values_X1_zerosAsNow rfl rfl rfl (by decide +kernel) ⟨Nat.le_of_ble_eq_true rfl, Nat.le_of_ble_eq_true rfl⟩) rfl rfl (Nat.le_of_ble_eq_true rfl) dX1_values_36 ⟨Nat.le_of_ble_eq_true rfl, Nat.le_of_ble_eq_true rfl⟩ (fun v w1 hp => ?_)
    obtain ⟨rfl, τz, rfl, kz, fz⟩ := hp
    refine gStk (st' := [.int (nI (cz (ps (Δ.2.1 (rI x)) (un Δ.1 (Δ.2.1 (rI x))) 1 (Δ.2.2 (rI x))) (Δ.2.1 (rI x))))]) (pc' := 39) rfl rfl ?_
    exact gRetIX hC hQ hr (Nat.le_of_ble_eq_true rfl) (Nat.le_of_ble_eq_true rfl) dX1_values_39 (⟨kk1_0 ok, rfl, τz, rfl, (hR.same k1 (by decide)).row kz hl_ fz⟩)
  · skip
    refine gAloadN (pc := 10) hC dX1_values_10 rfl 1 rfl ?_
    refine gAloadN (pc := 11) hC dX1_values_11 rfl 0 rfl ?_
    refine gAloadN (pc := 12) hC dX1_values_12 rfl 1 rfl ?_
    refine cGetRow (pc := 13) hC 5 (by decide) rfl hin1 hl29 dX1_values_13 ?_
    obtain ⟨μ, hm, eμ⟩ := hl_.pw
    have hw0 : gM l yX1_halvedValues wsX1_halvedValues rmX1_halvedValues D (cTy L) (WC L σ) [.ref (lx L), .ref (la L (rI x)), .ref (la L 8)] 0 0 (fun r w => r = none ∧ ∃ σ', w = WC L σ' ∧ cKeep σ σ' (fun q => q ≠ 8 ∧ q ≠ 9) ∧ rowIs σ' 8 (Δ.2.1 (rI x)) (ps (Δ.2.1 (rI x)) (un Δ.1 (Δ.2.1 (rI x))) 1 (Δ.2.2 (rI x)))) := by
      have h := c_X1_halvedValues l D L σ (rI x) 8 μ Δ.1 (Δ.2.2 (rI x)) (by decide) (by omega) (by omega) (by omega) (by decide) (eμ ▸ hF) hm hR.1 hR.2.1
      rw [← eμ] at h
      exact h
    refine gV (pc := 16) (rest := []) (ci := 1) (q0 := 0) hC (hw0) rfl rfl (cwV 2 hC.2.2.2.2.1 gX1_values_X1_halvedValues rfl rfl rfl (by decide +kernel) ⟨Nat.le_of_ble_eq_true rfl, Nat.le_of_ble_eq_true rfl⟩) rfl rfl (Nat.le_of_ble_eq_true rfl) dX1_values_16 ⟨Nat.le_of_ble_eq_true rfl, Nat.le_of_ble_eq_true rfl⟩ (fun v w1 hp => ?_)
    obtain ⟨rfl, τ1, rfl, k1, f1⟩ := hp
    refine gStk (st' := []) (pc' := 19) rfl rfl ?_
    refine gGoto (pc := 19) hC (tgt := 31) dX1_values_19 (by decide) ?_
    refine gAloadN (pc := 31) hC dX1_values_31 rfl 0 rfl ?_
    refine gAloadN (pc := 32) hC dX1_values_32 rfl 1 rfl ?_
    refine cGetRow (pc := 33) hC 5 (by decide) rfl hin1 hl29 dX1_values_33 ?_
    refine gS (pc := 36) (rest := []) hC (c_X1_zerosAsNow l D L τ1 (rI x) 8 (Δ.2.1 (rI x)) (ps (Δ.2.1 (rI x)) (un Δ.1 (Δ.2.1 (rI x))) 1 (Δ.2.2 (rI x))) (by omega) (by decide) f1 (by omega)) (va_cwS 2 hC.2.2.2.2.1 gX1_values_X1_zerosAsNow rfl rfl rfl (by decide +kernel) ⟨Nat.le_of_ble_eq_true rfl, Nat.le_of_ble_eq_true rfl⟩) rfl rfl (Nat.le_of_ble_eq_true rfl) dX1_values_36 ⟨Nat.le_of_ble_eq_true rfl, Nat.le_of_ble_eq_true rfl⟩ (fun v w1 hp => ?_)
    obtain ⟨rfl, τz, rfl, kz, fz⟩ := hp
    refine gStk (st' := [.int (nI (cz (ps (Δ.2.1 (rI x)) (un Δ.1 (Δ.2.1 (rI x))) 1 (Δ.2.2 (rI x))) (Δ.2.1 (rI x))))]) (pc' := 39) rfl rfl ?_
    exact gRetIX hC hQ hr (Nat.le_of_ble_eq_true rfl) (Nat.le_of_ble_eq_true rfl) dX1_values_39 (⟨kk1_0 ok, rfl, τz, rfl, (hR.keep (k1.sub (fun q hq => by omega))).row kz hl_ fz⟩)

abbrev rmX1_back : Room := { frames := 7, cells := 1, slots := 6, locals := 103 }
set_option maxRecDepth 100000 in
set_option maxHeartbeats 4000000 in
theorem c_X1_back (l : Launch) (D : va_G) (L : cLay) (σ : cSt) (Δ : dSt) (x : Int32) (hR : cRel σ Δ)  : gX l yX1_back wsX1_back rmX1_back D (cTy L) (WC L σ) [.ref (lx L), .int x] 1 6 (fun r w => kk1 (okR x) = 0 ∧ r = some (.int (nI (cz (bk (Δ.2.1 (rI x)) (un Δ.1 (Δ.2.1 (rI x))) (Δ.2.2 (rI x))) (Δ.2.1 (rI x))))) ∧ ∃ σ', w = WC L σ' ∧ cRel σ' (dRow Δ (rI x) (Δ.2.1 (rI x)) (bk (Δ.2.1 (rI x)) (un Δ.1 (Δ.2.1 (rI x))) (Δ.2.2 (rI x))))) (fun E w => ∃ σ', w = WC L σ' ∧ cRel σ' Δ ∧ ((E = XI ∧ kk1 (okR x) = 1))) := by
  refine gX.of (cc := cX1_back) (maxL := 3) (ret := (some .int)) (own := RX1) (by decide) rfl rfl (Nat.le_of_ble_eq_true rfl) rfl ?_
  intro p e s m args below meth c A Q hC hr hQ hEx hl9
  have hin1 : ∀ w ∈ u_ws RX1 TX1 8, w ∈ wsX1_back := by decide +kernel
  have hl29 : Cond.fieldLink RX1 29 "Rootrows" "found" "LRootrows$Row;" ∈ wsX1_back := by decide +kernel
  refine gAloadN (pc := 0) hC dX1_back_0 rfl 0 rfl ?_
  refine gIloadN (pc := 1) hC dX1_back_1 rfl 1 rfl ?_
  refine gVX (pc := 2) (rest := []) (ci := 1) (q0 := 0) hC hEx hl9 (c_X1_rowAt l D L σ x) rfl rfl (cwV 1 hC.2.2.2.2.1 gX1_back_X1_rowAt rfl rfl rfl (by decide +kernel) ⟨Nat.le_of_ble_eq_true rfl, Nat.le_of_ble_eq_true rfl⟩) rfl rfl (Nat.le_of_ble_eq_true rfl) dX1_back_2 ⟨Nat.le_of_ble_eq_true rfl, Nat.le_of_ble_eq_true rfl⟩ hQ (Nat.le_of_ble_eq_true rfl) (Nat.le_of_ble_eq_true rfl) (fun E w1 h => ⟨_, h.2.1, hR, ⟨h.1, kk1_1 h.2.2⟩⟩) (fun v w1 hp => ?_)
  obtain ⟨ok, rfl, rfl⟩ := hp
  refine gStk (st' := [.ref (la L (rI x))]) (pc' := 5) rfl rfl ?_
  obtain ⟨hi, ei⟩ := ok.get
  obtain ⟨hl_, hF⟩ := hR.2.2 (rI x) hi
  have hN := hl_.N
  have hL := hN.le
  refine gAstoreN (pc := 5) hC (lv' := [(2, .ref (la L (rI x))), (0, .ref (lx L)), (1, .int x)]) dX1_back_5 rfl (by decide) rfl ?_
  refine gAloadN (pc := 6) hC dX1_back_6 rfl 1 rfl ?_
  refine gAloadN (pc := 7) hC dX1_back_7 rfl 0 rfl ?_
  refine gAloadN (pc := 8) hC dX1_back_8 rfl 1 rfl ?_
  refine cGetRow (pc := 9) hC 5 (by decide) rfl hin1 hl29 dX1_back_9 ?_
  refine gV (pc := 12) (rest := []) (ci := 1) (q0 := 0) hC (c_X1_backRow l D L σ (rI x) 8 (Δ.2.1 (rI x)) Δ.1 (Δ.2.2 (rI x)) (by decide) (by omega) (by omega) hF hN hR.1) rfl rfl (cwV 2 hC.2.2.2.2.1 gX1_back_X1_backRow rfl rfl rfl (by decide +kernel) ⟨Nat.le_of_ble_eq_true rfl, Nat.le_of_ble_eq_true rfl⟩) rfl rfl (Nat.le_of_ble_eq_true rfl) dX1_back_12 ⟨Nat.le_of_ble_eq_true rfl, Nat.le_of_ble_eq_true rfl⟩ (fun v w1 hp => ?_)
  obtain ⟨rfl, τ1, rfl, k1, f1⟩ := hp
  refine gStk (st' := []) (pc' := 15) rfl rfl ?_
  refine gAloadN (pc := 15) hC dX1_back_15 rfl 0 rfl ?_
  refine gAloadN (pc := 16) hC dX1_back_16 rfl 1 rfl ?_
  refine cGetRow (pc := 17) hC 5 (by decide) rfl hin1 hl29 dX1_back_17 ?_
  refine gS (pc := 20) (rest := []) hC (c_X1_zerosAsNow l D L τ1 (rI x) 8 (Δ.2.1 (rI x)) (bk (Δ.2.1 (rI x)) (un Δ.1 (Δ.2.1 (rI x))) (Δ.2.2 (rI x))) (by omega) (by decide) f1 (by omega)) (va_cwS 2 hC.2.2.2.2.1 gX1_back_X1_zerosAsNow rfl rfl rfl (by decide +kernel) ⟨Nat.le_of_ble_eq_true rfl, Nat.le_of_ble_eq_true rfl⟩) rfl rfl (Nat.le_of_ble_eq_true rfl) dX1_back_20 ⟨Nat.le_of_ble_eq_true rfl, Nat.le_of_ble_eq_true rfl⟩ (fun v w1 hp => ?_)
  obtain ⟨rfl, τz, rfl, kz, fz⟩ := hp
  refine gStk (st' := [.int (nI (cz (bk (Δ.2.1 (rI x)) (un Δ.1 (Δ.2.1 (rI x))) (Δ.2.2 (rI x))) (Δ.2.1 (rI x))))]) (pc' := 23) rfl rfl ?_
  exact gRetIX hC hQ hr (Nat.le_of_ble_eq_true rfl) (Nat.le_of_ble_eq_true rfl) dX1_back_23 (⟨kk1_0 ok, rfl, τz, rfl, (hR.same k1 (by decide)).row kz hl_ fz⟩)

abbrev rmX1_valueAt : Room := { frames := 7, cells := 2, slots := 12, locals := 103 }
set_option maxRecDepth 100000 in
set_option maxHeartbeats 4000000 in
theorem c_X1_valueAt (l : Launch) (D : va_G) (L : cLay) (σ : cSt) (Δ : dSt) (x : Int32) (y : Int32) (hR : cRel σ Δ)  : gX l yX1_valueAt wsX1_valueAt rmX1_valueAt D (cTy L) (WC L σ) [.ref (lx L), .int x, .int y] 2 12 (fun r w => kk2 (okR x) (okNum y) = 0 ∧ r = some (.int (nI (hrn (Δ.2.2 (rI x)) (nu y) (Δ.2.1 (rI x)) 0).val)) ∧ ∃ σ', w = WC L σ' ∧ cRel σ' Δ) (fun E w => ∃ σ', w = WC L σ' ∧ cRel σ' Δ ∧ ((E = XI ∧ kk2 (okR x) (okNum y) = 1) ∨ (E = XA ∧ kk2 (okR x) (okNum y) = 2))) := by
  refine gX.of (cc := cX1_valueAt) (maxL := 6) (ret := (some .int)) (own := RX1) (by decide) rfl rfl (Nat.le_of_ble_eq_true rfl) rfl ?_
  intro p e s m args below meth c A Q hC hr hQ hEx hl9
  have hin0 : ∀ w ∈ u_ws RX0 TX0 2, w ∈ wsX1_valueAt := by decide +kernel
  have hl47 : Cond.fieldLink RX1 47 "Rootrows$Row" "size" "I" ∈ wsX1_valueAt := by decide +kernel
  have hl60 : Cond.fieldLink RX1 60 "Rootrows$Row" "numbers" "[I" ∈ wsX1_valueAt := by decide +kernel
  refine gAloadN (pc := 0) hC dX1_valueAt_0 rfl 0 rfl ?_
  refine gIloadN (pc := 1) hC dX1_valueAt_1 rfl 1 rfl ?_
  refine gVX (pc := 2) (rest := []) (ci := 1) (q0 := 0) hC hEx hl9 (c_X1_rowAt l D L σ x) rfl rfl (cwV 1 hC.2.2.2.2.1 gX1_valueAt_X1_rowAt rfl rfl rfl (by decide +kernel) ⟨Nat.le_of_ble_eq_true rfl, Nat.le_of_ble_eq_true rfl⟩) rfl rfl (Nat.le_of_ble_eq_true rfl) dX1_valueAt_2 ⟨Nat.le_of_ble_eq_true rfl, Nat.le_of_ble_eq_true rfl⟩ hQ (Nat.le_of_ble_eq_true rfl) (Nat.le_of_ble_eq_true rfl) (fun E w1 h => ⟨_, h.2.1, hR, Or.inl (⟨h.1, kk2_1 h.2.2⟩)⟩) (fun v w1 hp => ?_)
  obtain ⟨ok, rfl, rfl⟩ := hp
  refine gStk (st' := [.ref (la L (rI x))]) (pc' := 5) rfl rfl ?_
  obtain ⟨hi, ei⟩ := ok.get
  obtain ⟨hl_, hF⟩ := hR.2.2 (rI x) hi
  have hN := hl_.N
  have hL := hN.le
  refine gAstoreN (pc := 5) hC (lv' := [(3, .ref (la L (rI x))), (0, .ref (lx L)), (1, .int x), (2, .int y)]) dX1_valueAt_5 rfl (by decide) rfl ?_
  refine gIloadN (pc := 6) hC dX1_valueAt_6 rfl 3 rfl ?_
  refine gSX (pc := 7) (rest := []) hC hEx hl9 (c_X1_needNumber l D (cTy L) _ y) (va_cwS 1 hC.2.2.2.2.1 gX1_valueAt_X1_needNumber rfl rfl rfl (by decide +kernel) ⟨Nat.le_of_ble_eq_true rfl, Nat.le_of_ble_eq_true rfl⟩) rfl rfl (Nat.le_of_ble_eq_true rfl) dX1_valueAt_7 ⟨Nat.le_of_ble_eq_true rfl, Nat.le_of_ble_eq_true rfl⟩ hQ (Nat.le_of_ble_eq_true rfl) (Nat.le_of_ble_eq_true rfl) (fun E w1 h => ⟨_, h.2.1, hR, Or.inr (⟨h.1, kk2_2 ok h.2.2⟩)⟩) (fun v w1 hp => ?_)
  obtain ⟨okn, rfl, rfl⟩ := hp
  refine gStk (st' := []) (pc' := 10) rfl rfl ?_
  have en := nu_val okn
  refine gIconst (pc := 10) hC (v := (nI 0)) dX1_valueAt_10 (by decide +kernel) ?_
  refine gIstore (pc := 11) hC (lv' := [(4, .int (nI 0)), (3, .ref (la L (rI x))), (0, .ref (lx L)), (1, .int x), (2, .int y)]) dX1_valueAt_11 (by decide) rfl ?_
  refine gAloadN (pc := 13) hC dX1_valueAt_13 rfl 1 rfl ?_
  refine cGetSize (pc := 14) hC (K := (rI x)) (v := (nI (Δ.2.1 (rI x)))) (by omega) hin0 hl47 (hF.1) dX1_valueAt_14 ?_
  refine gIconst (pc := 17) hC (v := (nI 1)) dX1_valueAt_17 (by decide +kernel) ?_
  refine gIsub (pc := 18) hC (v := (nI (Δ.2.1 (rI x)) - nI 1)) dX1_valueAt_18 (rfl) ?_
  refine gIstore (pc := 19) hC (lv' := [(5, .int (nI (Δ.2.1 (rI x)) - nI 1)), (4, .int (nI 0)), (3, .ref (la L (rI x))), (0, .ref (lx L)), (1, .int x), (2, .int y)]) dX1_valueAt_19 (by decide) rfl ?_
  refine gLoc (lv' := [(5, .int (nI (Δ.2.1 (rI x)) - nI 1)), (4, .int (nI 0)), (0, .ref (lx L)), (2, .int y), (3, .ref (la L (rI x)))]) [0, 1, 3, 5, 2] rfl ?_
  refine loopUp (S := (Int32 × Int32)) (fun i ζ => gG p l e rmX1_valueAt s m args below meth c D A 6 2 12 Q (WC L σ) 21 [(5, .int (ζ.2)), (4, .int (ζ.1)), (0, .ref (lx L)), (2, .int y), (3, .ref (la L (rI x)))] []) (fun i ζ => ζ.1 = nI (hrn (Δ.2.2 (rI x)) (nu y) i ((Δ.2.1 (rI x)) - i)).val ∧ ζ.2 = nI ((Δ.2.1 (rI x)) - i) - nI 1) (Δ.2.1 (rI x)) ?_ ?_ 0 ((nI 0), (nI (Δ.2.1 (rI x)) - nI 1)) (by omega) (⟨rfl, rfl⟩)
  · intro ζ hI
    obtain ⟨c1, c2⟩ := ζ
    try dsimp only at hI ⊢
    refine gIload (pc := 21) hC dX1_valueAt_21 0 rfl ?_
    rw [hI.2, Nat.sub_self]
    refine gIf_lt (pc := 23) hC (tgt := 50) dX1_valueAt_23 (by decide) (fun hc1 => ?_) (fun hc1 => absurd (by decide) hc1)
    refine gIload (pc := 50) hC dX1_valueAt_50 1 rfl ?_
    exact gRetIX hC hQ hr (Nat.le_of_ble_eq_true rfl) (Nat.le_of_ble_eq_true rfl) dX1_valueAt_52 (⟨kk2_0 ok okn, by rw [hI.1, Nat.sub_self], _, rfl, hR⟩)
  · intro i ζ hi hI ih
    obtain ⟨c1, c2⟩ := ζ
    try dsimp only at hI ih ⊢
    obtain ⟨j, ej⟩ : ∃ j, (Δ.2.1 (rI x)) - i = j + 1 := ⟨(Δ.2.1 (rI x)) - i - 1, by omega⟩
    have e2 : c2 = nI j := by rw [hI.2, ej]; exact nI_pred j
    have e1 : c1 = nI (hrn (Δ.2.2 (rI x)) (nu y) i (j + 1)).val := by rw [hI.1, ej]
    subst e2
    refine gIload (pc := 21) hC dX1_valueAt_21 0 rfl ?_
    refine gIf_lt (pc := 23) hC (tgt := 50) dX1_valueAt_23 (by decide) (fun hc2 => absurd hc2 (nI_pos (by omega))) (fun hc2 => ?_)
    refine gIload (pc := 26) hC dX1_valueAt_26 1 rfl ?_
    refine gIloadN (pc := 28) hC dX1_valueAt_28 rfl 3 rfl ?_
    refine gS (pc := 29) (rest := []) hC (c_X1_multiplied l D _ _ _ _ (hrn (Δ.2.2 (rI x)) (nu y) i (j + 1)) (nu y) e1 en) (va_cwS 2 hC.2.2.2.2.1 gX1_valueAt_X1_multiplied rfl rfl rfl (by decide +kernel) ⟨Nat.le_of_ble_eq_true rfl, Nat.le_of_ble_eq_true rfl⟩) rfl rfl (Nat.le_of_ble_eq_true rfl) dX1_valueAt_29 ⟨Nat.le_of_ble_eq_true rfl, Nat.le_of_ble_eq_true rfl⟩ (fun v w1 hp => ?_)
    obtain ⟨rfl, rfl⟩ := hp
    refine gStk (st' := [.int (nI (hrn (Δ.2.2 (rI x)) (nu y) i (j + 1) * nu y).val)]) (pc' := 32) rfl rfl ?_
    refine gAloadN (pc := 32) hC dX1_valueAt_32 rfl 4 rfl ?_
    refine cGetNums (pc := 33) hC (K := (rI x)) (by omega) hin0 hl60 dX1_valueAt_33 ?_
    refine gIload (pc := 36) hC dX1_valueAt_36 0 rfl ?_
    refine cNumLd (pc := 38) hC (K := (rI x)) (v := (nI ((Δ.2.2 (rI x)) j).val)) (by omega) j (rfl) (by omega) (hF.2 _ (by omega)) dX1_valueAt_38 ?_
    refine gS (pc := 39) (rest := []) hC (c_X1_added l D _ _ _ _ (hrn (Δ.2.2 (rI x)) (nu y) i (j + 1) * nu y) ((Δ.2.2 (rI x)) j) rfl rfl) (va_cwS 2 hC.2.2.2.2.1 gX1_valueAt_X1_added rfl rfl rfl (by decide +kernel) ⟨Nat.le_of_ble_eq_true rfl, Nat.le_of_ble_eq_true rfl⟩) rfl rfl (Nat.le_of_ble_eq_true rfl) dX1_valueAt_39 ⟨Nat.le_of_ble_eq_true rfl, Nat.le_of_ble_eq_true rfl⟩ (fun v w1 hp => ?_)
    obtain ⟨rfl, rfl⟩ := hp
    refine gStk (st' := [.int (nI (hrn (Δ.2.2 (rI x)) (nu y) i (j + 1) * nu y + (Δ.2.2 (rI x)) j).val)]) (pc' := 42) rfl rfl ?_
    refine gIstore (pc := 42) hC (lv' := [(4, .int (nI (hrn (Δ.2.2 (rI x)) (nu y) i (j + 1) * nu y + (Δ.2.2 (rI x)) j).val)), (5, .int (nI j)), (0, .ref (lx L)), (2, .int y), (3, .ref (la L (rI x)))]) dX1_valueAt_42 (by decide) rfl ?_
    refine gIinc (pc := 44) hC (v := (nI j - nI 1)) (lv' := [(5, .int (nI j - nI 1)), (4, .int (nI (hrn (Δ.2.2 (rI x)) (nu y) i (j + 1) * nu y + (Δ.2.2 (rI x)) j).val)), (0, .ref (lx L)), (2, .int y), (3, .ref (la L (rI x)))]) dX1_valueAt_44 (q := 1) rfl (by rw [Int32.sub_eq_add_neg]; exact congrArg (nI j + ·) (by decide +kernel)) (by decide) rfl ?_
    refine gGoto (pc := 47) hC (tgt := 21) dX1_valueAt_47 (by decide) ?_
    refine gLoc (lv' := [(5, .int (nI j - nI 1)), (4, .int (nI (hrn (Δ.2.2 (rI x)) (nu y) i (j + 1) * nu y + (Δ.2.2 (rI x)) j).val)), (0, .ref (lx L)), (2, .int y), (3, .ref (la L (rI x)))]) [0, 1, 2, 3, 4] rfl ?_
    exact ih ((nI (hrn (Δ.2.2 (rI x)) (nu y) i (j + 1) * nu y + (Δ.2.2 (rI x)) j).val), (nI j - nI 1)) (by rw [show (Δ.2.1 (rI x)) - (i + 1) = j by omega]; exact ⟨rfl, rfl⟩)

abbrev rmX1_support : Room := { frames := 7, cells := 1, slots := 6, locals := 103 }
set_option maxRecDepth 100000 in
set_option maxHeartbeats 4000000 in
theorem c_X1_support (l : Launch) (D : va_G) (L : cLay) (σ : cSt) (Δ : dSt) (x : Int32) (hR : cRel σ Δ)  : gX l yX1_support wsX1_support rmX1_support D (cTy L) (WC L σ) [.ref (lx L), .int x] 1 6 (fun r w => kk1 (okR x) = 0 ∧ r = some (.int (nI (spt (ps (Δ.2.1 (rI x)) (un Δ.1 (Δ.2.1 (rI x))) 1 (Δ.2.2 (rI x))) (Δ.2.1 (rI x))))) ∧ ∃ σ', w = WC L σ' ∧ cRel σ' Δ) (fun E w => ∃ σ', w = WC L σ' ∧ cRel σ' Δ ∧ ((E = XI ∧ kk1 (okR x) = 1))) := by
  refine gX.of (cc := cX1_support) (maxL := 4) (ret := (some .int)) (own := RX1) (by decide) rfl rfl (Nat.le_of_ble_eq_true rfl) rfl ?_
  intro p e s m args below meth c A Q hC hr hQ hEx hl9
  have hin0 : ∀ w ∈ u_ws RX0 TX0 2, w ∈ wsX1_support := by decide +kernel
  have hin1 : ∀ w ∈ u_ws RX1 TX1 8, w ∈ wsX1_support := by decide +kernel
  have hl29 : Cond.fieldLink RX1 29 "Rootrows" "found" "LRootrows$Row;" ∈ wsX1_support := by decide +kernel
  have hl47 : Cond.fieldLink RX1 47 "Rootrows$Row" "size" "I" ∈ wsX1_support := by decide +kernel
  have hl60 : Cond.fieldLink RX1 60 "Rootrows$Row" "numbers" "[I" ∈ wsX1_support := by decide +kernel
  refine gAloadN (pc := 0) hC dX1_support_0 rfl 0 rfl ?_
  refine gAloadN (pc := 1) hC dX1_support_1 rfl 0 rfl ?_
  refine gIloadN (pc := 2) hC dX1_support_2 rfl 1 rfl ?_
  refine gVX (pc := 3) (rest := [.ref (lx L)]) (ci := 1) (q0 := 0) hC hEx hl9 (c_X1_rowAt l D L σ x) rfl rfl (cwV 1 hC.2.2.2.2.1 gX1_support_X1_rowAt rfl rfl rfl (by decide +kernel) ⟨Nat.le_of_ble_eq_true rfl, Nat.le_of_ble_eq_true rfl⟩) rfl rfl (Nat.le_of_ble_eq_true rfl) dX1_support_3 ⟨Nat.le_of_ble_eq_true rfl, Nat.le_of_ble_eq_true rfl⟩ hQ (Nat.le_of_ble_eq_true rfl) (Nat.le_of_ble_eq_true rfl) (fun E w1 h => ⟨_, h.2.1, hR, ⟨h.1, kk1_1 h.2.2⟩⟩) (fun v w1 hp => ?_)
  obtain ⟨ok, rfl, rfl⟩ := hp
  refine gStk (st' := [.ref (la L (rI x)), .ref (lx L)]) (pc' := 6) rfl rfl ?_
  obtain ⟨hi, ei⟩ := ok.get
  obtain ⟨hl_, hF⟩ := hR.2.2 (rI x) hi
  have hN := hl_.N
  have hL := hN.le
  refine gAloadN (pc := 6) hC dX1_support_6 rfl 0 rfl ?_
  refine cGetRow (pc := 7) hC 5 (by decide) rfl hin1 hl29 dX1_support_7 ?_
  refine gV (pc := 10) (rest := []) (ci := 1) (q0 := 0) hC (c_X1_plainValues l D L σ (rI x) 8 (Δ.2.1 (rI x)) Δ.1 (Δ.2.2 (rI x)) (by decide) (by omega) (by omega) hF hN hR.1) rfl rfl (cwV 2 hC.2.2.2.2.1 gX1_support_X1_plainValues rfl rfl rfl (by decide +kernel) ⟨Nat.le_of_ble_eq_true rfl, Nat.le_of_ble_eq_true rfl⟩) rfl rfl (Nat.le_of_ble_eq_true rfl) dX1_support_10 ⟨Nat.le_of_ble_eq_true rfl, Nat.le_of_ble_eq_true rfl⟩ (fun v w1 hp => ?_)
  obtain ⟨rfl, τ1, rfl, k1, f1⟩ := hp
  refine gStk (st' := []) (pc' := 13) rfl rfl ?_
  refine gIconst (pc := 13) hC (v := (nI 0)) dX1_support_13 (by decide +kernel) ?_
  refine gIstoreN (pc := 14) hC (lv' := [(2, .int (nI 0)), (0, .ref (lx L)), (1, .int x)]) dX1_support_14 rfl (by decide) rfl ?_
  refine gIconst (pc := 15) hC (v := (nI 0)) dX1_support_15 (by decide +kernel) ?_
  refine gIstoreN (pc := 16) hC (lv' := [(3, .int (nI 0)), (2, .int (nI 0)), (0, .ref (lx L)), (1, .int x)]) dX1_support_16 rfl (by decide) rfl ?_
  refine gLoc (lv' := [(3, .int (nI 0)), (2, .int (nI 0)), (0, .ref (lx L))]) [0, 1, 2] rfl ?_
  refine loopUp (S := Int32) (fun i ζ => gG p l e rmX1_support s m args below meth c D A 4 1 6 Q (WC L τ1) 17 [(3, .int (nI i)), (2, .int ζ), (0, .ref (lx L))] []) (fun i ζ => ζ = nI (spt (ps (Δ.2.1 (rI x)) (un Δ.1 (Δ.2.1 (rI x))) 1 (Δ.2.2 (rI x))) i)) (Δ.2.1 (rI x)) ?_ ?_ 0 ((nI 0)) (by omega) (rfl)
  · intro ζ hI
    revert hI; generalize ζ = c1; intro hI
    refine gIloadN (pc := 17) hC dX1_support_17 rfl 0 rfl ?_
    refine gAloadN (pc := 18) hC dX1_support_18 rfl 2 rfl ?_
    refine cGetRow (pc := 19) hC 5 (by decide) rfl hin1 hl29 dX1_support_19 ?_
    refine cGetSize (pc := 22) hC (K := 8) (v := (nI (Δ.2.1 (rI x)))) (by decide) hin0 hl47 (f1.1) dX1_support_22 ?_
    refine gIcmp_ge (pc := 25) hC (tgt := 52) dX1_support_25 (by decide) (fun hc1 => ?_) (fun hc1 => absurd (nI_le (Nat.le_refl _) (by omega)) hc1)
    refine gIloadN (pc := 52) hC dX1_support_52 rfl 1 rfl ?_
    exact gRetIX hC hQ hr (Nat.le_of_ble_eq_true rfl) (Nat.le_of_ble_eq_true rfl) dX1_support_53 (⟨kk1_0 ok, by rw [hI], _, rfl, hR.same k1 (by decide)⟩)
  · intro i ζ hi hI ih
    revert hI; generalize ζ = c1; intro hI
    refine gIloadN (pc := 17) hC dX1_support_17 rfl 0 rfl ?_
    refine gAloadN (pc := 18) hC dX1_support_18 rfl 2 rfl ?_
    refine cGetRow (pc := 19) hC 5 (by decide) rfl hin1 hl29 dX1_support_19 ?_
    refine cGetSize (pc := 22) hC (K := 8) (v := (nI (Δ.2.1 (rI x)))) (by decide) hin0 hl47 (f1.1) dX1_support_22 ?_
    refine gIcmp_ge (pc := 25) hC (tgt := 52) dX1_support_25 (by decide) (fun hc2 => absurd hc2 (nI_ge hi (by omega))) (fun hc2 => ?_)
    refine gAloadN (pc := 28) hC dX1_support_28 rfl 2 rfl ?_
    refine cGetRow (pc := 29) hC 5 (by decide) rfl hin1 hl29 dX1_support_29 ?_
    refine cGetNums (pc := 32) hC (K := 8) (by decide) hin0 hl60 dX1_support_32 ?_
    refine gIloadN (pc := 35) hC dX1_support_35 rfl 0 rfl ?_
    refine cNumLd (pc := 36) hC (K := 8) (v := (nI ((ps (Δ.2.1 (rI x)) (un Δ.1 (Δ.2.1 (rI x))) 1 (Δ.2.2 (rI x))) i).val)) (by decide) i (rfl) (by omega) (f1.2 _ (by omega)) dX1_support_36 ?_
    refine gIf_eq (pc := 37) hC (tgt := 46) dX1_support_37 (by decide) (fun hc3 => ?_) (fun hc3 => ?_)
    · skip
      refine gIinc (pc := 46) hC (v := (nI (i + 1))) (lv' := [(3, .int (nI (i + 1))), (2, .int c1), (0, .ref (lx L))]) dX1_support_46 (q := 0) rfl (nI_1 _) (by decide) rfl ?_
      refine gGoto (pc := 49) hC (tgt := 17) dX1_support_49 (by decide) ?_
      refine gLoc (lv' := [(3, .int (nI (i + 1))), (2, .int c1), (0, .ref (lx L))]) [0, 1, 2] rfl ?_
      exact ih (c1) (by rw [hI, spt_s, if_pos ((val0 _).mp hc3), Nat.add_zero])
    · skip
      refine gIloadN (pc := 40) hC dX1_support_40 rfl 1 rfl ?_
      refine gIconst (pc := 41) hC (v := (nI 1)) dX1_support_41 (by decide +kernel) ?_
      refine gIloadN (pc := 42) hC dX1_support_42 rfl 0 rfl ?_
      refine gIshl (pc := 43) hC (v := (nI (2 ^ i))) dX1_support_43 (j_bit (by omega)) ?_
      refine gIor (pc := 44) hC (v := (nI (spt (ps (Δ.2.1 (rI x)) (un Δ.1 (Δ.2.1 (rI x))) 1 (Δ.2.2 (rI x))) (i + 1)))) dX1_support_44 (by rw [hI]; exact j_orBit (by omega) (fun h => hc3 ((val0 _).mpr h))) ?_
      refine gIstoreN (pc := 45) hC (lv' := [(2, .int (nI (spt (ps (Δ.2.1 (rI x)) (un Δ.1 (Δ.2.1 (rI x))) 1 (Δ.2.2 (rI x))) (i + 1)))), (3, .int (nI i)), (0, .ref (lx L))]) dX1_support_45 rfl (by decide) rfl ?_
      refine gIinc (pc := 46) hC (v := (nI (i + 1))) (lv' := [(3, .int (nI (i + 1))), (2, .int (nI (spt (ps (Δ.2.1 (rI x)) (un Δ.1 (Δ.2.1 (rI x))) 1 (Δ.2.2 (rI x))) (i + 1)))), (0, .ref (lx L))]) dX1_support_46 (q := 1) rfl (nI_1 _) (by decide) rfl ?_
      refine gGoto (pc := 49) hC (tgt := 17) dX1_support_49 (by decide) ?_
      refine gLoc (lv' := [(3, .int (nI (i + 1))), (2, .int (nI (spt (ps (Δ.2.1 (rI x)) (un Δ.1 (Δ.2.1 (rI x))) 1 (Δ.2.2 (rI x))) (i + 1)))), (0, .ref (lx L))]) [0, 1, 2] rfl ?_
      exact ih ((nI (spt (ps (Δ.2.1 (rI x)) (un Δ.1 (Δ.2.1 (rI x))) 1 (Δ.2.2 (rI x))) (i + 1)))) (rfl)

abbrev rmX1_times : Room := { frames := 7, cells := 3, slots := 18, locals := 128 }
set_option maxRecDepth 100000 in
set_option maxHeartbeats 4000000 in
theorem c_X1_times (l : Launch) (D : va_G) (L : cLay) (σ : cSt) (Δ : dSt) (x : Int32) (y : Int32) (z : Int32) (hR : cRel σ Δ)  : gX l yX1_times wsX1_times rmX1_times D (cTy L) (WC L σ) [.ref (lx L), .int x, .int y, .int z] 3 18 (fun r w => kk2 (okR x ∧ okR y) ((Δ.2.1 (rI x)) = (Δ.2.1 (rI y))) = 0 ∧ r = some (.int (nI (cz (rp (Δ.2.1 (rI x)) (Δ.2.2 (rI x)) (Δ.2.2 (rI y))) (Δ.2.1 (rI x))))) ∧ ∃ σ', w = WC L σ' ∧ cRel σ' (dRow Δ (rI x) (Δ.2.1 (rI x)) (rp (Δ.2.1 (rI x)) (Δ.2.2 (rI x)) (Δ.2.2 (rI y))))) (fun E w => ∃ σ', w = WC L σ' ∧ cRel σ' Δ ∧ ((E = XI ∧ kk2 (okR x ∧ okR y) ((Δ.2.1 (rI x)) = (Δ.2.1 (rI y))) = 1) ∨ (E = XS ∧ kk2 (okR x ∧ okR y) ((Δ.2.1 (rI x)) = (Δ.2.1 (rI y))) = 2))) := by
  refine gX.of (cc := cX1_times) (maxL := 6) (ret := (some .int)) (own := RX1) (by decide) rfl rfl (Nat.le_of_ble_eq_true rfl) rfl ?_
  intro p e s m args below meth c A Q hC hr hQ hEx hl9
  have hin1 : ∀ w ∈ u_ws RX1 TX1 8, w ∈ wsX1_times := by decide +kernel
  have hl29 : Cond.fieldLink RX1 29 "Rootrows" "found" "LRootrows$Row;" ∈ wsX1_times := by decide +kernel
  refine gAloadN (pc := 0) hC dX1_times_0 rfl 0 rfl ?_
  refine gIloadN (pc := 1) hC dX1_times_1 rfl 1 rfl ?_
  refine gVX (pc := 2) (rest := []) (ci := 1) (q0 := 0) hC hEx hl9 (c_X1_rowAt l D L σ x) rfl rfl (cwV 1 hC.2.2.2.2.1 gX1_times_X1_rowAt rfl rfl rfl (by decide +kernel) ⟨Nat.le_of_ble_eq_true rfl, Nat.le_of_ble_eq_true rfl⟩) rfl rfl (Nat.le_of_ble_eq_true rfl) dX1_times_2 ⟨Nat.le_of_ble_eq_true rfl, Nat.le_of_ble_eq_true rfl⟩ hQ (Nat.le_of_ble_eq_true rfl) (Nat.le_of_ble_eq_true rfl) (fun E w1 h => ⟨_, h.2.1, hR, Or.inl (⟨h.1, kk2_1 (fun q => h.2.2 q.1)⟩)⟩) (fun v w1 hp => ?_)
  obtain ⟨ok, rfl, rfl⟩ := hp
  refine gStk (st' := [.ref (la L (rI x))]) (pc' := 5) rfl rfl ?_
  obtain ⟨hi, ei⟩ := ok.get
  obtain ⟨hl_, hF⟩ := hR.2.2 (rI x) hi
  have hN := hl_.N
  have hL := hN.le
  refine gAstore (pc := 5) hC (lv' := [(4, .ref (la L (rI x))), (0, .ref (lx L)), (1, .int x), (2, .int y), (3, .int z)]) dX1_times_5 (by decide) rfl ?_
  refine gAloadN (pc := 7) hC dX1_times_7 rfl 1 rfl ?_
  refine gIloadN (pc := 8) hC dX1_times_8 rfl 3 rfl ?_
  refine gVX (pc := 9) (rest := []) (ci := 1) (q0 := 0) hC hEx hl9 (c_X1_rowAt l D L σ y) rfl rfl (cwV 1 hC.2.2.2.2.1 gX1_times_X1_rowAt rfl rfl rfl (by decide +kernel) ⟨Nat.le_of_ble_eq_true rfl, Nat.le_of_ble_eq_true rfl⟩) rfl rfl (Nat.le_of_ble_eq_true rfl) dX1_times_9 ⟨Nat.le_of_ble_eq_true rfl, Nat.le_of_ble_eq_true rfl⟩ hQ (Nat.le_of_ble_eq_true rfl) (Nat.le_of_ble_eq_true rfl) (fun E w1 h => ⟨_, h.2.1, hR, Or.inl (⟨h.1, kk2_1 (fun q => h.2.2 q.2)⟩)⟩) (fun v w1 hp => ?_)
  obtain ⟨ok2, rfl, rfl⟩ := hp
  refine gStk (st' := [.ref (la L (rI y))]) (pc' := 12) rfl rfl ?_
  obtain ⟨hi2, ei2⟩ := ok2.get
  obtain ⟨hl2_, hF2⟩ := hR.2.2 (rI y) hi2
  have hN2 := hl2_.N
  have hL2 := hN2.le
  refine gAstore (pc := 12) hC (lv' := [(5, .ref (la L (rI y))), (4, .ref (la L (rI x))), (0, .ref (lx L)), (1, .int x), (2, .int y), (3, .int z)]) dX1_times_12 (by decide) rfl ?_
  refine gAload (pc := 14) hC dX1_times_14 1 rfl ?_
  refine gAload (pc := 16) hC dX1_times_16 0 rfl ?_
  refine gSX (pc := 18) (rest := []) hC hEx hl9 (c_X1_needAlike l D L σ (rI x) (rI y) (Δ.2.1 (rI x)) (Δ.2.1 (rI y)) (Δ.2.2 (rI x)) (Δ.2.2 (rI y)) (by omega) (by omega) hF hF2 hL hL2) (va_cwS 2 hC.2.2.2.2.1 gX1_times_X1_needAlike rfl rfl rfl (by decide +kernel) ⟨Nat.le_of_ble_eq_true rfl, Nat.le_of_ble_eq_true rfl⟩) rfl rfl (Nat.le_of_ble_eq_true rfl) dX1_times_18 ⟨Nat.le_of_ble_eq_true rfl, Nat.le_of_ble_eq_true rfl⟩ hQ (Nat.le_of_ble_eq_true rfl) (Nat.le_of_ble_eq_true rfl) (fun E w1 h => ⟨_, h.2.1, hR, Or.inr (⟨h.1, kk2_2 (⟨ok, ok2⟩) h.2.2⟩)⟩) (fun v w1 hp => ?_)
  obtain ⟨oka, rfl, rfl⟩ := hp
  refine gStk (st' := []) (pc' := 21) rfl rfl ?_
  have hG : rowIs σ (rI y) (Δ.2.1 (rI x)) (Δ.2.2 (rI y)) := by rw [oka]; exact hF2
  refine gIloadN (pc := 21) hC dX1_times_21 rfl 5 rfl ?_
  refine gIf_eq (pc := 22) hC (tgt := 40) dX1_times_22 (by decide) (fun hc1 => ?_) (fun hc1 => ?_)
  · skip
    refine gAloadN (pc := 40) hC dX1_times_40 rfl 2 rfl ?_
    refine cGetRow (pc := 41) hC 5 (by decide) rfl hin1 hl29 dX1_times_41 ?_
    refine gAload (pc := 44) hC dX1_times_44 1 rfl ?_
    refine gAload (pc := 46) hC dX1_times_46 0 rfl ?_
    refine gV (pc := 48) (rest := []) (ci := 0) (q0 := 2 + 2 * 8) hC (c_X0_becomeRingProduct l D L σ 8 (rI x) (rI y) (Δ.2.1 (rI x)) (Δ.2.2 (rI x)) (Δ.2.2 (rI y)) (by decide) (by omega) (by omega) (by omega) (by omega) hF hG hN) rfl (wc_row (by decide)) (cwV 2 hC.2.2.2.2.1 gX1_times_X0_becomeRingProduct rfl rfl rfl (by decide +kernel) ⟨Nat.le_of_ble_eq_true rfl, Nat.le_of_ble_eq_true rfl⟩) rfl rfl (Nat.le_of_ble_eq_true rfl) dX1_times_48 ⟨Nat.le_of_ble_eq_true rfl, Nat.le_of_ble_eq_true rfl⟩ (fun v w1 hp => ?_)
    obtain ⟨rfl, τ1, rfl, k1, f1⟩ := hp
    refine gStk (st' := []) (pc' := 51) rfl rfl ?_
    refine gAload (pc := 51) hC dX1_times_51 1 rfl ?_
    refine gAloadN (pc := 53) hC dX1_times_53 rfl 2 rfl ?_
    refine cGetRow (pc := 54) hC 5 (by decide) rfl hin1 hl29 dX1_times_54 ?_
    refine gS (pc := 57) (rest := []) hC (c_X1_zerosAsNow l D L τ1 (rI x) 8 (Δ.2.1 (rI x)) (rp (Δ.2.1 (rI x)) (Δ.2.2 (rI x)) (Δ.2.2 (rI y))) (by omega) (by decide) f1 (by omega)) (va_cwS 2 hC.2.2.2.2.1 gX1_times_X1_zerosAsNow rfl rfl rfl (by decide +kernel) ⟨Nat.le_of_ble_eq_true rfl, Nat.le_of_ble_eq_true rfl⟩) rfl rfl (Nat.le_of_ble_eq_true rfl) dX1_times_57 ⟨Nat.le_of_ble_eq_true rfl, Nat.le_of_ble_eq_true rfl⟩ (fun v w1 hp => ?_)
    obtain ⟨rfl, τz, rfl, kz, fz⟩ := hp
    refine gStk (st' := [.int (nI (cz (rp (Δ.2.1 (rI x)) (Δ.2.2 (rI x)) (Δ.2.2 (rI y))) (Δ.2.1 (rI x))))]) (pc' := 60) rfl rfl ?_
    exact gRetIX hC hQ hr (Nat.le_of_ble_eq_true rfl) (Nat.le_of_ble_eq_true rfl) dX1_times_60 (⟨kk2_0 (⟨ok, ok2⟩) oka, rfl, τz, rfl, (hR.same k1 (by decide)).row kz hl_ fz⟩)
  · skip
    refine gAloadN (pc := 25) hC dX1_times_25 rfl 2 rfl ?_
    refine gAload (pc := 26) hC dX1_times_26 1 rfl ?_
    refine gAload (pc := 28) hC dX1_times_28 0 rfl ?_
    refine gAloadN (pc := 30) hC dX1_times_30 rfl 2 rfl ?_
    refine cGetRow (pc := 31) hC 5 (by decide) rfl hin1 hl29 dX1_times_31 ?_
    refine gV (pc := 34) (rest := []) (ci := 1) (q0 := 0) hC (c_X1_productByValues l D L σ (rI x) (rI y) (Δ.2.1 (rI x)) Δ.1 (Δ.2.2 (rI x)) (Δ.2.2 (rI y)) hi hi2 hF hG hl_ hR.1 hR.2.1) rfl rfl (cwV 3 hC.2.2.2.2.1 gX1_times_X1_productByValues rfl rfl rfl (by decide +kernel) ⟨Nat.le_of_ble_eq_true rfl, Nat.le_of_ble_eq_true rfl⟩) rfl rfl (Nat.le_of_ble_eq_true rfl) dX1_times_34 ⟨Nat.le_of_ble_eq_true rfl, Nat.le_of_ble_eq_true rfl⟩ (fun v w1 hp => ?_)
    obtain ⟨rfl, τ1, rfl, k1, f1⟩ := hp
    refine gStk (st' := []) (pc' := 37) rfl rfl ?_
    refine gGoto (pc := 37) hC (tgt := 51) dX1_times_37 (by decide) ?_
    refine gAload (pc := 51) hC dX1_times_51 1 rfl ?_
    refine gAloadN (pc := 53) hC dX1_times_53 rfl 2 rfl ?_
    refine cGetRow (pc := 54) hC 5 (by decide) rfl hin1 hl29 dX1_times_54 ?_
    refine gS (pc := 57) (rest := []) hC (c_X1_zerosAsNow l D L τ1 (rI x) 8 (Δ.2.1 (rI x)) (rp (Δ.2.1 (rI x)) (Δ.2.2 (rI x)) (Δ.2.2 (rI y))) (by omega) (by decide) f1 (by omega)) (va_cwS 2 hC.2.2.2.2.1 gX1_times_X1_zerosAsNow rfl rfl rfl (by decide +kernel) ⟨Nat.le_of_ble_eq_true rfl, Nat.le_of_ble_eq_true rfl⟩) rfl rfl (Nat.le_of_ble_eq_true rfl) dX1_times_57 ⟨Nat.le_of_ble_eq_true rfl, Nat.le_of_ble_eq_true rfl⟩ (fun v w1 hp => ?_)
    obtain ⟨rfl, τz, rfl, kz, fz⟩ := hp
    refine gStk (st' := [.int (nI (cz (rp (Δ.2.1 (rI x)) (Δ.2.2 (rI x)) (Δ.2.2 (rI y))) (Δ.2.1 (rI x))))]) (pc' := 60) rfl rfl ?_
    exact gRetIX hC hQ hr (Nat.le_of_ble_eq_true rfl) (Nat.le_of_ble_eq_true rfl) dX1_times_60 (⟨kk2_0 (⟨ok, ok2⟩) oka, rfl, τz, rfl, (hR.keep k1).row kz hl_ fz⟩)

abbrev rmX1_plainTimes : Room := { frames := 7, cells := 4, slots := 24, locals := 103 }
set_option maxRecDepth 100000 in
set_option maxHeartbeats 4000000 in
theorem c_X1_plainTimes (l : Launch) (D : va_G) (L : cLay) (σ : cSt) (Δ : dSt) (x : Int32) (y : Int32) (hR : cRel σ Δ)  : gX l yX1_plainTimes wsX1_plainTimes rmX1_plainTimes D (cTy L) (WC L σ) [.ref (lx L), .int x, .int y] 4 24 (fun r w => kk2 (okR x ∧ okR y) ((Δ.2.1 (rI x)) = (Δ.2.1 (rI y)) ∧ (Δ.2.1 (rI x)) < 16) = 0 ∧ r = some (.int (nI (cz (pp (Δ.2.1 (rI x)) (Δ.2.2 (rI x)) (Δ.2.2 (rI y))) (2 * (Δ.2.1 (rI x)))))) ∧ ∃ σ', w = WC L σ' ∧ cRel σ' (dRow Δ (rI x) (2 * (Δ.2.1 (rI x))) (pp (Δ.2.1 (rI x)) (Δ.2.2 (rI x)) (Δ.2.2 (rI y))))) (fun E w => ∃ σ', w = WC L σ' ∧ cRel σ' Δ ∧ ((E = XI ∧ kk2 (okR x ∧ okR y) ((Δ.2.1 (rI x)) = (Δ.2.1 (rI y)) ∧ (Δ.2.1 (rI x)) < 16) = 1) ∨ (E = XS ∧ kk2 (okR x ∧ okR y) ((Δ.2.1 (rI x)) = (Δ.2.1 (rI y)) ∧ (Δ.2.1 (rI x)) < 16) = 2))) := by
  refine gX.of (cc := cX1_plainTimes) (maxL := 5) (ret := (some .int)) (own := RX1) (by decide) rfl rfl (Nat.le_of_ble_eq_true rfl) rfl ?_
  intro p e s m args below meth c A Q hC hr hQ hEx hl9
  have hin1 : ∀ w ∈ u_ws RX1 TX1 8, w ∈ wsX1_plainTimes := by decide +kernel
  have hl29 : Cond.fieldLink RX1 29 "Rootrows" "found" "LRootrows$Row;" ∈ wsX1_plainTimes := by decide +kernel
  refine gAloadN (pc := 0) hC dX1_plainTimes_0 rfl 0 rfl ?_
  refine gIloadN (pc := 1) hC dX1_plainTimes_1 rfl 1 rfl ?_
  refine gVX (pc := 2) (rest := []) (ci := 1) (q0 := 0) hC hEx hl9 (c_X1_rowAt l D L σ x) rfl rfl (cwV 1 hC.2.2.2.2.1 gX1_plainTimes_X1_rowAt rfl rfl rfl (by decide +kernel) ⟨Nat.le_of_ble_eq_true rfl, Nat.le_of_ble_eq_true rfl⟩) rfl rfl (Nat.le_of_ble_eq_true rfl) dX1_plainTimes_2 ⟨Nat.le_of_ble_eq_true rfl, Nat.le_of_ble_eq_true rfl⟩ hQ (Nat.le_of_ble_eq_true rfl) (Nat.le_of_ble_eq_true rfl) (fun E w1 h => ⟨_, h.2.1, hR, Or.inl (⟨h.1, kk2_1 (fun q => h.2.2 q.1)⟩)⟩) (fun v w1 hp => ?_)
  obtain ⟨ok, rfl, rfl⟩ := hp
  refine gStk (st' := [.ref (la L (rI x))]) (pc' := 5) rfl rfl ?_
  obtain ⟨hi, ei⟩ := ok.get
  obtain ⟨hl_, hF⟩ := hR.2.2 (rI x) hi
  have hN := hl_.N
  have hL := hN.le
  refine gAstoreN (pc := 5) hC (lv' := [(3, .ref (la L (rI x))), (0, .ref (lx L)), (1, .int x), (2, .int y)]) dX1_plainTimes_5 rfl (by decide) rfl ?_
  refine gAloadN (pc := 6) hC dX1_plainTimes_6 rfl 1 rfl ?_
  refine gIloadN (pc := 7) hC dX1_plainTimes_7 rfl 3 rfl ?_
  refine gVX (pc := 8) (rest := []) (ci := 1) (q0 := 0) hC hEx hl9 (c_X1_rowAt l D L σ y) rfl rfl (cwV 1 hC.2.2.2.2.1 gX1_plainTimes_X1_rowAt rfl rfl rfl (by decide +kernel) ⟨Nat.le_of_ble_eq_true rfl, Nat.le_of_ble_eq_true rfl⟩) rfl rfl (Nat.le_of_ble_eq_true rfl) dX1_plainTimes_8 ⟨Nat.le_of_ble_eq_true rfl, Nat.le_of_ble_eq_true rfl⟩ hQ (Nat.le_of_ble_eq_true rfl) (Nat.le_of_ble_eq_true rfl) (fun E w1 h => ⟨_, h.2.1, hR, Or.inl (⟨h.1, kk2_1 (fun q => h.2.2 q.2)⟩)⟩) (fun v w1 hp => ?_)
  obtain ⟨ok2, rfl, rfl⟩ := hp
  refine gStk (st' := [.ref (la L (rI y))]) (pc' := 11) rfl rfl ?_
  obtain ⟨hi2, ei2⟩ := ok2.get
  obtain ⟨hl2_, hF2⟩ := hR.2.2 (rI y) hi2
  have hN2 := hl2_.N
  have hL2 := hN2.le
  refine gAstore (pc := 11) hC (lv' := [(4, .ref (la L (rI y))), (3, .ref (la L (rI x))), (0, .ref (lx L)), (1, .int x), (2, .int y)]) dX1_plainTimes_11 (by decide) rfl ?_
  refine gAloadN (pc := 13) hC dX1_plainTimes_13 rfl 1 rfl ?_
  refine gAload (pc := 14) hC dX1_plainTimes_14 0 rfl ?_
  refine gSX (pc := 16) (rest := []) hC hEx hl9 (c_X1_needAlike l D L σ (rI x) (rI y) (Δ.2.1 (rI x)) (Δ.2.1 (rI y)) (Δ.2.2 (rI x)) (Δ.2.2 (rI y)) (by omega) (by omega) hF hF2 hL hL2) (va_cwS 2 hC.2.2.2.2.1 gX1_plainTimes_X1_needAlike rfl rfl rfl (by decide +kernel) ⟨Nat.le_of_ble_eq_true rfl, Nat.le_of_ble_eq_true rfl⟩) rfl rfl (Nat.le_of_ble_eq_true rfl) dX1_plainTimes_16 ⟨Nat.le_of_ble_eq_true rfl, Nat.le_of_ble_eq_true rfl⟩ hQ (Nat.le_of_ble_eq_true rfl) (Nat.le_of_ble_eq_true rfl) (fun E w1 h => ⟨_, h.2.1, hR, Or.inr (⟨h.1, kk2_2 ⟨ok, ok2⟩ (fun q => h.2.2 q.1)⟩)⟩) (fun v w1 hp => ?_)
  obtain ⟨oka, rfl, rfl⟩ := hp
  refine gStk (st' := []) (pc' := 19) rfl rfl ?_
  have hG : rowIs σ (rI y) (Δ.2.1 (rI x)) (Δ.2.2 (rI y)) := by rw [oka]; exact hF2
  refine gAloadN (pc := 19) hC dX1_plainTimes_19 rfl 1 rfl ?_
  refine gSX (pc := 20) (rest := []) hC hEx hl9 (c_X1_needRoom l D L σ (rI x) (Δ.2.1 (rI x)) (Δ.2.2 (rI x)) (by omega) hF hL) (va_cwS 1 hC.2.2.2.2.1 gX1_plainTimes_X1_needRoom rfl rfl rfl (by decide +kernel) ⟨Nat.le_of_ble_eq_true rfl, Nat.le_of_ble_eq_true rfl⟩) rfl rfl (Nat.le_of_ble_eq_true rfl) dX1_plainTimes_20 ⟨Nat.le_of_ble_eq_true rfl, Nat.le_of_ble_eq_true rfl⟩ hQ (Nat.le_of_ble_eq_true rfl) (Nat.le_of_ble_eq_true rfl) (fun E w1 h => ⟨_, h.2.1, hR, Or.inr (⟨h.1, kk2_2 ⟨ok, ok2⟩ (fun q => h.2.2 q.2)⟩)⟩) (fun v w1 hp => ?_)
  obtain ⟨okm, rfl, rfl⟩ := hp
  refine gStk (st' := []) (pc' := 23) rfl rfl ?_
  have h8 : (Δ.2.1 (rI x)) ≤ 8 := by rcases hl_ with h | h | h | h <;> omega
  have hl2 : okL (2 * (Δ.2.1 (rI x))) := by unfold okL; rcases hl_ with h | h | h | h <;> omega
  refine gAloadN (pc := 23) hC dX1_plainTimes_23 rfl 2 rfl ?_
  refine cGetRow (pc := 24) hC 5 (by decide) rfl hin1 hl29 dX1_plainTimes_24 ?_
  refine gAloadN (pc := 27) hC dX1_plainTimes_27 rfl 1 rfl ?_
  refine gAload (pc := 28) hC dX1_plainTimes_28 0 rfl ?_
  refine gV (pc := 30) (rest := []) (ci := 0) (q0 := 2 + 2 * 8) hC (c_X0_becomePlainProduct l D L σ 8 (rI x) (rI y) (Δ.2.1 (rI x)) (Δ.2.2 (rI x)) (Δ.2.2 (rI y)) (by decide) (by omega) (by omega) (by omega) (by omega) hF hG h8) rfl (wc_row (by decide)) (cwV 2 hC.2.2.2.2.1 gX1_plainTimes_X0_becomePlainProduct rfl rfl rfl (by decide +kernel) ⟨Nat.le_of_ble_eq_true rfl, Nat.le_of_ble_eq_true rfl⟩) rfl rfl (Nat.le_of_ble_eq_true rfl) dX1_plainTimes_30 ⟨Nat.le_of_ble_eq_true rfl, Nat.le_of_ble_eq_true rfl⟩ (fun v w1 hp => ?_)
  obtain ⟨rfl, τ1, rfl, k1, f1⟩ := hp
  refine gStk (st' := []) (pc' := 33) rfl rfl ?_
  refine gAloadN (pc := 33) hC dX1_plainTimes_33 rfl 1 rfl ?_
  refine gAloadN (pc := 34) hC dX1_plainTimes_34 rfl 2 rfl ?_
  refine cGetRow (pc := 35) hC 5 (by decide) rfl hin1 hl29 dX1_plainTimes_35 ?_
  refine gS (pc := 38) (rest := []) hC (c_X1_zerosAsNow l D L τ1 (rI x) 8 (2 * (Δ.2.1 (rI x))) (pp (Δ.2.1 (rI x)) (Δ.2.2 (rI x)) (Δ.2.2 (rI y))) (by omega) (by decide) f1 (by omega)) (va_cwS 2 hC.2.2.2.2.1 gX1_plainTimes_X1_zerosAsNow rfl rfl rfl (by decide +kernel) ⟨Nat.le_of_ble_eq_true rfl, Nat.le_of_ble_eq_true rfl⟩) rfl rfl (Nat.le_of_ble_eq_true rfl) dX1_plainTimes_38 ⟨Nat.le_of_ble_eq_true rfl, Nat.le_of_ble_eq_true rfl⟩ (fun v w1 hp => ?_)
  obtain ⟨rfl, τz, rfl, kz, fz⟩ := hp
  refine gStk (st' := [.int (nI (cz (pp (Δ.2.1 (rI x)) (Δ.2.2 (rI x)) (Δ.2.2 (rI y))) (2 * (Δ.2.1 (rI x)))))]) (pc' := 41) rfl rfl ?_
  exact gRetIX hC hQ hr (Nat.le_of_ble_eq_true rfl) (Nat.le_of_ble_eq_true rfl) dX1_plainTimes_41 (⟨kk2_0 (⟨ok, ok2⟩) (⟨oka, okm⟩), rfl, τz, rfl, (hR.same k1 (by decide)).row kz hl2 fz⟩)

abbrev rmX1_invert : Room := { frames := 7, cells := 2, slots := 12, locals := 116 }
set_option maxRecDepth 100000 in
set_option maxHeartbeats 4000000 in
theorem c_X1_invert (l : Launch) (D : va_G) (L : cLay) (σ : cSt) (Δ : dSt) (x : Int32) (hR : cRel σ Δ)  : gX l yX1_invert wsX1_invert rmX1_invert D (cTy L) (WC L σ) [.ref (lx L), .int x] 2 12 (fun r w => kk2 (okR x) (cz (ps (Δ.2.1 (rI x)) (un Δ.1 (Δ.2.1 (rI x))) 1 (Δ.2.2 (rI x))) (Δ.2.1 (rI x)) = 0) = 0 ∧ r = some (.int (nI ((bk (Δ.2.1 (rI x)) (un Δ.1 (Δ.2.1 (rI x))) (fun i => iv ((ps (Δ.2.1 (rI x)) (un Δ.1 (Δ.2.1 (rI x))) 1 (Δ.2.2 (rI x))) i))) 0).val)) ∧ ∃ σ', w = WC L σ' ∧ cRel σ' (dRow Δ (rI x) (Δ.2.1 (rI x)) (bk (Δ.2.1 (rI x)) (un Δ.1 (Δ.2.1 (rI x))) (fun i => iv ((ps (Δ.2.1 (rI x)) (un Δ.1 (Δ.2.1 (rI x))) 1 (Δ.2.2 (rI x))) i))))) (fun E w => ∃ σ', w = WC L σ' ∧ cRel σ' Δ ∧ ((E = XI ∧ kk2 (okR x) (cz (ps (Δ.2.1 (rI x)) (un Δ.1 (Δ.2.1 (rI x))) 1 (Δ.2.2 (rI x))) (Δ.2.1 (rI x)) = 0) = 1) ∨ (E = XS ∧ kk2 (okR x) (cz (ps (Δ.2.1 (rI x)) (un Δ.1 (Δ.2.1 (rI x))) 1 (Δ.2.2 (rI x))) (Δ.2.1 (rI x)) = 0) = 2))) := by
  refine gX.of (cc := cX1_invert) (maxL := 3) (ret := (some .int)) (own := RX1) (by decide) rfl rfl (Nat.le_of_ble_eq_true rfl) rfl ?_
  intro p e s m args below meth c A Q hC hr hQ hEx hl9
  have hin0 : ∀ w ∈ u_ws RX0 TX0 2, w ∈ wsX1_invert := by decide +kernel
  have hin1 : ∀ w ∈ u_ws RX1 TX1 8, w ∈ wsX1_invert := by decide +kernel
  have hl16 : Cond.fieldLink RX1 16 "Rootrows" "left" "LRootrows$Row;" ∈ wsX1_invert := by decide +kernel
  have hl29 : Cond.fieldLink RX1 29 "Rootrows" "found" "LRootrows$Row;" ∈ wsX1_invert := by decide +kernel
  have hl60 : Cond.fieldLink RX1 60 "Rootrows$Row" "numbers" "[I" ∈ wsX1_invert := by decide +kernel
  refine gAloadN (pc := 0) hC dX1_invert_0 rfl 0 rfl ?_
  refine gIloadN (pc := 1) hC dX1_invert_1 rfl 1 rfl ?_
  refine gVX (pc := 2) (rest := []) (ci := 1) (q0 := 0) hC hEx hl9 (c_X1_rowAt l D L σ x) rfl rfl (cwV 1 hC.2.2.2.2.1 gX1_invert_X1_rowAt rfl rfl rfl (by decide +kernel) ⟨Nat.le_of_ble_eq_true rfl, Nat.le_of_ble_eq_true rfl⟩) rfl rfl (Nat.le_of_ble_eq_true rfl) dX1_invert_2 ⟨Nat.le_of_ble_eq_true rfl, Nat.le_of_ble_eq_true rfl⟩ hQ (Nat.le_of_ble_eq_true rfl) (Nat.le_of_ble_eq_true rfl) (fun E w1 h => ⟨_, h.2.1, hR, Or.inl (⟨h.1, kk2_1 h.2.2⟩)⟩) (fun v w1 hp => ?_)
  obtain ⟨ok, rfl, rfl⟩ := hp
  refine gStk (st' := [.ref (la L (rI x))]) (pc' := 5) rfl rfl ?_
  obtain ⟨hi, ei⟩ := ok.get
  obtain ⟨hl_, hF⟩ := hR.2.2 (rI x) hi
  have hN := hl_.N
  have hL := hN.le
  refine gAstoreN (pc := 5) hC (lv' := [(2, .ref (la L (rI x))), (0, .ref (lx L)), (1, .int x)]) dX1_invert_5 rfl (by decide) rfl ?_
  refine gAloadN (pc := 6) hC dX1_invert_6 rfl 1 rfl ?_
  refine gAloadN (pc := 7) hC dX1_invert_7 rfl 0 rfl ?_
  refine gAloadN (pc := 8) hC dX1_invert_8 rfl 1 rfl ?_
  refine cGetRow (pc := 9) hC 1 (by decide) rfl hin1 hl16 dX1_invert_9 ?_
  refine gV (pc := 12) (rest := []) (ci := 1) (q0 := 0) hC (c_X1_plainValues l D L σ (rI x) 4 (Δ.2.1 (rI x)) Δ.1 (Δ.2.2 (rI x)) (by decide) (by omega) (by omega) hF hN hR.1) rfl rfl (cwV 2 hC.2.2.2.2.1 gX1_invert_X1_plainValues rfl rfl rfl (by decide +kernel) ⟨Nat.le_of_ble_eq_true rfl, Nat.le_of_ble_eq_true rfl⟩) rfl rfl (Nat.le_of_ble_eq_true rfl) dX1_invert_12 ⟨Nat.le_of_ble_eq_true rfl, Nat.le_of_ble_eq_true rfl⟩ (fun v w1 hp => ?_)
  obtain ⟨rfl, τ1, rfl, k1, f1⟩ := hp
  refine gStk (st' := []) (pc' := 15) rfl rfl ?_
  refine gAloadN (pc := 15) hC dX1_invert_15 rfl 1 rfl ?_
  refine cGetRow (pc := 16) hC 1 (by decide) rfl hin1 hl16 dX1_invert_16 ?_
  refine gV (pc := 19) (rest := []) (ci := 0) (q0 := 2 + 2 * 4) hC (c_X0_countZeros l D L τ1 4 (Δ.2.1 (rI x)) (ps (Δ.2.1 (rI x)) (un Δ.1 (Δ.2.1 (rI x))) 1 (Δ.2.2 (rI x))) (by decide) f1 hL) rfl (wc_row (by decide)) (cwV 0 hC.2.2.2.2.1 gX1_invert_X0_countZeros rfl rfl rfl (by decide +kernel) ⟨Nat.le_of_ble_eq_true rfl, Nat.le_of_ble_eq_true rfl⟩) rfl rfl (Nat.le_of_ble_eq_true rfl) dX1_invert_19 ⟨Nat.le_of_ble_eq_true rfl, Nat.le_of_ble_eq_true rfl⟩ (fun v w1 hp => ?_)
  obtain ⟨rfl, rfl⟩ := hp
  refine gStk (st' := [.int (nI (cz (ps (Δ.2.1 (rI x)) (un Δ.1 (Δ.2.1 (rI x))) 1 (Δ.2.2 (rI x))) (Δ.2.1 (rI x))))]) (pc' := 22) rfl rfl ?_
  refine gIf_le (pc := 22) hC (tgt := 35) dX1_invert_22 (by decide) (fun hc1 => ?_) (fun hc1 => ?_)
  · skip
    have okz : cz (ps (Δ.2.1 (rI x)) (un Δ.1 (Δ.2.1 (rI x))) 1 (Δ.2.2 (rI x))) (Δ.2.1 (rI x)) = 0 := by
      rcases Nat.eq_zero_or_pos (cz (ps (Δ.2.1 (rI x)) (un Δ.1 (Δ.2.1 (rI x))) 1 (Δ.2.2 (rI x))) (Δ.2.1 (rI x))) with q | q
      · exact q
      · exact absurd hc1 (nI_nle q (by have := cz_le (ps (Δ.2.1 (rI x)) (un Δ.1 (Δ.2.1 (rI x))) 1 (Δ.2.2 (rI x))) (Δ.2.1 (rI x)); omega))
    refine gAloadN (pc := 35) hC dX1_invert_35 rfl 1 rfl ?_
    refine gAloadN (pc := 36) hC dX1_invert_36 rfl 1 rfl ?_
    refine cGetRow (pc := 37) hC 1 (by decide) rfl hin1 hl16 dX1_invert_37 ?_
    refine gAloadN (pc := 40) hC dX1_invert_40 rfl 1 rfl ?_
    refine cGetRow (pc := 41) hC 5 (by decide) rfl hin1 hl29 dX1_invert_41 ?_
    refine gV (pc := 44) (rest := []) (ci := 1) (q0 := 0) hC (c_X1_inverseByValues l D L τ1 4 8 (Δ.2.1 (rI x)) Δ.1 (ps (Δ.2.1 (rI x)) (un Δ.1 (Δ.2.1 (rI x))) 1 (Δ.2.2 (rI x))) (by decide) (by decide) (by decide) f1 hN (k1.1.trans hR.1) (by decide) (by decide)) rfl rfl (cwV 2 hC.2.2.2.2.1 gX1_invert_X1_inverseByValues rfl rfl rfl (by decide +kernel) ⟨Nat.le_of_ble_eq_true rfl, Nat.le_of_ble_eq_true rfl⟩) rfl rfl (Nat.le_of_ble_eq_true rfl) dX1_invert_44 ⟨Nat.le_of_ble_eq_true rfl, Nat.le_of_ble_eq_true rfl⟩ (fun v w1 hp => ?_)
    obtain ⟨rfl, τ2, rfl, k2, f2⟩ := hp
    refine gStk (st' := []) (pc' := 47) rfl rfl ?_
    refine gAloadN (pc := 47) hC dX1_invert_47 rfl 0 rfl ?_
    refine gAloadN (pc := 48) hC dX1_invert_48 rfl 1 rfl ?_
    refine cGetRow (pc := 49) hC 5 (by decide) rfl hin1 hl29 dX1_invert_49 ?_
    refine gV (pc := 52) (rest := []) (ci := 0) (q0 := 2 + 2 * (rI x)) hC (c_X0_take l D L τ2 (rI x) 8 (by omega) (by decide)) rfl (wc_row (by omega)) (cwV 1 hC.2.2.2.2.1 gX1_invert_X0_take rfl rfl rfl (by decide +kernel) ⟨Nat.le_of_ble_eq_true rfl, Nat.le_of_ble_eq_true rfl⟩) rfl rfl (Nat.le_of_ble_eq_true rfl) dX1_invert_52 ⟨Nat.le_of_ble_eq_true rfl, Nat.le_of_ble_eq_true rfl⟩ (fun v w1 hp => ?_)
    obtain ⟨rfl, τ3, rfl, h1, h2, h3⟩ := hp
    refine gStk (st' := []) (pc' := 55) rfl rfl ?_
    have f3 : rowIs τ3 (rI x) (Δ.2.1 (rI x)) (bk (Δ.2.1 (rI x)) (un Δ.1 (Δ.2.1 (rI x))) (fun i => iv ((ps (Δ.2.1 (rI x)) (un Δ.1 (Δ.2.1 (rI x))) 1 (Δ.2.2 (rI x))) i))) := ⟨h2.trans f2.1, fun j hj => (h3 j (by omega)).trans (f2.2 j hj)⟩
    have hpos := hN.pos
    refine gAloadN (pc := 55) hC dX1_invert_55 rfl 0 rfl ?_
    refine cGetNums (pc := 56) hC (K := (rI x)) (by omega) hin0 hl60 dX1_invert_56 ?_
    refine gIconst (pc := 59) hC (v := (nI 0)) dX1_invert_59 (by decide +kernel) ?_
    refine cNumLd (pc := 60) hC (K := (rI x)) (v := (nI ((bk (Δ.2.1 (rI x)) (un Δ.1 (Δ.2.1 (rI x))) (fun i => iv ((ps (Δ.2.1 (rI x)) (un Δ.1 (Δ.2.1 (rI x))) 1 (Δ.2.2 (rI x))) i))) 0).val)) (by omega) 0 (rfl) (by omega) (f3.2 _ (by omega)) dX1_invert_60 ?_
    exact gRetIX hC hQ hr (Nat.le_of_ble_eq_true rfl) (Nat.le_of_ble_eq_true rfl) dX1_invert_61 (⟨kk2_0 ok okz, rfl, τ3, rfl, (hR.keep ((cKeep.of k1 (fun q hq => by omega)).tr ⟨k2.1, fun q hq => k2.2 q (by omega) (by omega)⟩)).row h1 hl_ f3⟩)
  · skip
    exact gThrow (pc := 25) (E := "java/lang/IllegalStateException") (text := "one of the values is 0") hC hEx hl9 (by decide +kernel) (by decide +kernel) (by decide +kernel) (by decide +kernel) (by decide +kernel) (by decide +kernel) (by decide +kernel) dX1_invert_25 dX1_invert_28 dX1_invert_29 dX1_invert_31 dX1_invert_34 (Nat.le_of_ble_eq_true rfl) (Nat.le_of_ble_eq_true rfl) (Nat.le_of_ble_eq_true rfl) (Nat.le_of_ble_eq_true rfl) (Nat.le_of_ble_eq_true rfl) (Nat.le_of_ble_eq_true rfl) hQ (⟨τ1, rfl, hR.same k1 (by decide), Or.inr (⟨rfl, kk2_2 ok (fun q => hc1 (by rw [q]; exact Int32.le_refl _))⟩)⟩)

abbrev rmX1_product : Room := { frames := 3, cells := 0, slots := 0, locals := 70 }
set_option maxRecDepth 100000 in
set_option maxHeartbeats 4000000 in
theorem c_X1_product (l : Launch) (D : va_G) (L : cLay) (σ : cSt) (Δ : dSt) (x : Int32) (y : Int32) (hR : cRel σ Δ)  : gM l yX1_product wsX1_product rmX1_product D (cTy L) (WC L σ) [.ref (lx L), .int x, .int y] 0 0 (fun r w => r = some (.long (lN (x.toBitVec.toNat * y.toBitVec.toNat))) ∧ ∃ σ', w = WC L σ' ∧ cRel σ' Δ) := by
  refine gM.of (cc := cX1_product) (maxL := 3) (ret := (some .long)) (own := RX1) (by decide) rfl rfl (Nat.le_of_ble_eq_true rfl) rfl ?_
  intro p e s m args below meth c A Q hC hr hnm hQ
  have hin1 : ∀ w ∈ u_ws RX1 TX1 8, w ∈ wsX1_product := by decide +kernel
  have hl16 : Cond.fieldLink RX1 16 "Rootrows" "left" "LRootrows$Row;" ∈ wsX1_product := by decide +kernel
  have hl20 : Cond.fieldLink RX1 20 "Rootrows" "right" "LRootrows$Row;" ∈ wsX1_product := by decide +kernel
  have hl29 : Cond.fieldLink RX1 29 "Rootrows" "found" "LRootrows$Row;" ∈ wsX1_product := by decide +kernel
  refine gAloadN (pc := 0) hC dX1_product_0 rfl 0 rfl ?_
  refine cGetRow (pc := 1) hC 1 (by decide) rfl hin1 hl16 dX1_product_1 ?_
  refine gIloadN (pc := 4) hC dX1_product_4 rfl 1 rfl ?_
  refine gV (pc := 5) (rest := []) (ci := 0) (q0 := 2 + 2 * 4) hC (c_X0_becomeDigits l D L σ 4 x (by decide)) rfl (wc_row (by decide)) (cwV 1 hC.2.2.2.2.1 gX1_product_X0_becomeDigits rfl rfl rfl (by decide +kernel) ⟨Nat.le_of_ble_eq_true rfl, Nat.le_of_ble_eq_true rfl⟩) rfl rfl (Nat.le_of_ble_eq_true rfl) dX1_product_5 ⟨Nat.le_of_ble_eq_true rfl, Nat.le_of_ble_eq_true rfl⟩ (fun v w1 hp => ?_)
  obtain ⟨rfl, τ1, rfl, k1, f1⟩ := hp
  refine gStk (st' := []) (pc' := 8) rfl rfl ?_
  refine gAloadN (pc := 8) hC dX1_product_8 rfl 0 rfl ?_
  refine cGetRow (pc := 9) hC 2 (by decide) rfl hin1 hl20 dX1_product_9 ?_
  refine gIloadN (pc := 12) hC dX1_product_12 rfl 2 rfl ?_
  refine gV (pc := 13) (rest := []) (ci := 0) (q0 := 2 + 2 * 5) hC (c_X0_becomeDigits l D L τ1 5 y (by decide)) rfl (wc_row (by decide)) (cwV 1 hC.2.2.2.2.1 gX1_product_X0_becomeDigits rfl rfl rfl (by decide +kernel) ⟨Nat.le_of_ble_eq_true rfl, Nat.le_of_ble_eq_true rfl⟩) rfl rfl (Nat.le_of_ble_eq_true rfl) dX1_product_13 ⟨Nat.le_of_ble_eq_true rfl, Nat.le_of_ble_eq_true rfl⟩ (fun v w1 hp => ?_)
  obtain ⟨rfl, τ2, rfl, k2, f2⟩ := hp
  refine gStk (st' := []) (pc' := 16) rfl rfl ?_
  refine gAloadN (pc := 16) hC dX1_product_16 rfl 0 rfl ?_
  refine cGetRow (pc := 17) hC 5 (by decide) rfl hin1 hl29 dX1_product_17 ?_
  refine gAloadN (pc := 20) hC dX1_product_20 rfl 0 rfl ?_
  refine cGetRow (pc := 21) hC 1 (by decide) rfl hin1 hl16 dX1_product_21 ?_
  refine gAloadN (pc := 24) hC dX1_product_24 rfl 0 rfl ?_
  refine cGetRow (pc := 25) hC 2 (by decide) rfl hin1 hl20 dX1_product_25 ?_
  refine gV (pc := 28) (rest := []) (ci := 0) (q0 := 2 + 2 * 8) hC (c_X0_becomeRingProduct l D L τ2 8 4 5 16 (dg x) (dg y) (by decide) (by decide) (by decide) (by decide) (by decide) (f1.kept k2 (by decide)) f2 (by unfold okN; omega)) rfl (wc_row (by decide)) (cwV 2 hC.2.2.2.2.1 gX1_product_X0_becomeRingProduct rfl rfl rfl (by decide +kernel) ⟨Nat.le_of_ble_eq_true rfl, Nat.le_of_ble_eq_true rfl⟩) rfl rfl (Nat.le_of_ble_eq_true rfl) dX1_product_28 ⟨Nat.le_of_ble_eq_true rfl, Nat.le_of_ble_eq_true rfl⟩ (fun v w1 hp => ?_)
  obtain ⟨rfl, τ3, rfl, k3, f3⟩ := hp
  refine gStk (st' := []) (pc' := 31) rfl rfl ?_
  refine gAloadN (pc := 31) hC dX1_product_31 rfl 0 rfl ?_
  refine cGetRow (pc := 32) hC 5 (by decide) rfl hin1 hl29 dX1_product_32 ?_
  refine gV (pc := 35) (rest := []) (ci := 0) (q0 := 2 + 2 * 8) hC (c_X0_toldByDigits l D L τ3 8 16 (rp 16 (dg x) (dg y)) (by decide) f3 (by decide)) rfl (wc_row (by decide)) (cwV 0 hC.2.2.2.2.1 gX1_product_X0_toldByDigits rfl rfl rfl (by decide +kernel) ⟨Nat.le_of_ble_eq_true rfl, Nat.le_of_ble_eq_true rfl⟩) rfl rfl (Nat.le_of_ble_eq_true rfl) dX1_product_35 ⟨Nat.le_of_ble_eq_true rfl, Nat.le_of_ble_eq_true rfl⟩ (fun v w1 hp => ?_)
  obtain ⟨rfl, rfl⟩ := hp
  refine gStk (st' := [.long (lN (sn 16 (fun i => (rp 16 (dg x) (dg y) i).val * 2 ^ (4 * i))))]) (pc' := 38) rfl rfl ?_
  exact gRetL hC hQ hr (Nat.le_of_ble_eq_true rfl) (Nat.le_of_ble_eq_true rfl) dX1_product_38 (⟨by rw [dg_prod], τ3, rfl, ((hR.same k1 (by decide)).same k2 (by decide)).same k3 (by decide)⟩)

abbrev rmX1_digits : Room := { frames := 7, cells := 1, slots := 6, locals := 103 }
set_option maxRecDepth 100000 in
set_option maxHeartbeats 4000000 in
theorem c_X1_digits (l : Launch) (D : va_G) (L : cLay) (σ : cSt) (Δ : dSt) (x : Int32) (y : Int32) (hR : cRel σ Δ)  : gX l yX1_digits wsX1_digits rmX1_digits D (cTy L) (WC L σ) [.ref (lx L), .int x, .int y] 1 6 (fun r w => kk1 (okR x) = 0 ∧ r = some (.int (nI (16 - cz (dg y) 16))) ∧ ∃ σ', w = WC L σ' ∧ cRel σ' (dRow Δ (rI x) 16 (dg y))) (fun E w => ∃ σ', w = WC L σ' ∧ cRel σ' Δ ∧ ((E = XI ∧ kk1 (okR x) = 1))) := by
  refine gX.of (cc := cX1_digits) (maxL := 4) (ret := (some .int)) (own := RX1) (by decide) rfl rfl (Nat.le_of_ble_eq_true rfl) rfl ?_
  intro p e s m args below meth c A Q hC hr hQ hEx hl9
  have hin0 : ∀ w ∈ u_ws RX0 TX0 2, w ∈ wsX1_digits := by decide +kernel
  have hl47 : Cond.fieldLink RX1 47 "Rootrows$Row" "size" "I" ∈ wsX1_digits := by decide +kernel
  refine gAloadN (pc := 0) hC dX1_digits_0 rfl 0 rfl ?_
  refine gIloadN (pc := 1) hC dX1_digits_1 rfl 1 rfl ?_
  refine gVX (pc := 2) (rest := []) (ci := 1) (q0 := 0) hC hEx hl9 (c_X1_rowAt l D L σ x) rfl rfl (cwV 1 hC.2.2.2.2.1 gX1_digits_X1_rowAt rfl rfl rfl (by decide +kernel) ⟨Nat.le_of_ble_eq_true rfl, Nat.le_of_ble_eq_true rfl⟩) rfl rfl (Nat.le_of_ble_eq_true rfl) dX1_digits_2 ⟨Nat.le_of_ble_eq_true rfl, Nat.le_of_ble_eq_true rfl⟩ hQ (Nat.le_of_ble_eq_true rfl) (Nat.le_of_ble_eq_true rfl) (fun E w1 h => ⟨_, h.2.1, hR, ⟨h.1, kk1_1 h.2.2⟩⟩) (fun v w1 hp => ?_)
  obtain ⟨ok, rfl, rfl⟩ := hp
  refine gStk (st' := [.ref (la L (rI x))]) (pc' := 5) rfl rfl ?_
  obtain ⟨hi, ei⟩ := ok.get
  obtain ⟨hl_, hF⟩ := hR.2.2 (rI x) hi
  have hN := hl_.N
  have hL := hN.le
  refine gAstoreN (pc := 5) hC (lv' := [(3, .ref (la L (rI x))), (0, .ref (lx L)), (1, .int x), (2, .int y)]) dX1_digits_5 rfl (by decide) rfl ?_
  refine gAloadN (pc := 6) hC dX1_digits_6 rfl 0 rfl ?_
  refine gIloadN (pc := 7) hC dX1_digits_7 rfl 3 rfl ?_
  refine gV (pc := 8) (rest := []) (ci := 0) (q0 := 2 + 2 * (rI x)) hC (c_X0_becomeDigits l D L σ (rI x) y (by omega)) rfl (wc_row (by omega)) (cwV 1 hC.2.2.2.2.1 gX1_digits_X0_becomeDigits rfl rfl rfl (by decide +kernel) ⟨Nat.le_of_ble_eq_true rfl, Nat.le_of_ble_eq_true rfl⟩) rfl rfl (Nat.le_of_ble_eq_true rfl) dX1_digits_8 ⟨Nat.le_of_ble_eq_true rfl, Nat.le_of_ble_eq_true rfl⟩ (fun v w1 hp => ?_)
  obtain ⟨rfl, τ1, rfl, k1, f1⟩ := hp
  refine gStk (st' := []) (pc' := 11) rfl rfl ?_
  refine gAloadN (pc := 11) hC dX1_digits_11 rfl 0 rfl ?_
  refine cGetSize (pc := 12) hC (K := (rI x)) (v := (nI 16)) (by omega) hin0 hl47 (f1.1) dX1_digits_12 ?_
  refine gAloadN (pc := 15) hC dX1_digits_15 rfl 0 rfl ?_
  refine gV (pc := 16) (rest := [.int (nI 16)]) (ci := 0) (q0 := 2 + 2 * (rI x)) hC (c_X0_countZeros l D L τ1 (rI x) 16 (dg y) (by omega) f1 (by decide)) rfl (wc_row (by omega)) (cwV 0 hC.2.2.2.2.1 gX1_digits_X0_countZeros rfl rfl rfl (by decide +kernel) ⟨Nat.le_of_ble_eq_true rfl, Nat.le_of_ble_eq_true rfl⟩) rfl rfl (Nat.le_of_ble_eq_true rfl) dX1_digits_16 ⟨Nat.le_of_ble_eq_true rfl, Nat.le_of_ble_eq_true rfl⟩ (fun v w1 hp => ?_)
  obtain ⟨rfl, rfl⟩ := hp
  refine gStk (st' := [.int (nI (cz (dg y) 16)), .int (nI 16)]) (pc' := 19) rfl rfl ?_
  refine gIsub (pc := 19) hC (v := (nI (16 - cz (dg y) 16))) dX1_digits_19 (pk_sub (cz_le _ _)) ?_
  exact gRetIX hC hQ hr (Nat.le_of_ble_eq_true rfl) (Nat.le_of_ble_eq_true rfl) dX1_digits_20 (⟨kk1_0 ok, rfl, τ1, rfl, hR.row k1 (by unfold okL; omega) f1⟩)

abbrev rmX1_told : Room := { frames := 7, cells := 1, slots := 6, locals := 103 }
set_option maxRecDepth 100000 in
set_option maxHeartbeats 4000000 in
theorem c_X1_told (l : Launch) (D : va_G) (L : cLay) (σ : cSt) (Δ : dSt) (x : Int32) (hR : cRel σ Δ)  : gX l yX1_told wsX1_told rmX1_told D (cTy L) (WC L σ) [.ref (lx L), .int x] 1 6 (fun r w => kk1 (okR x) = 0 ∧ r = some (.long (lN (sn (Δ.2.1 (rI x)) (fun i => ((Δ.2.2 (rI x)) i).val * 2 ^ (4 * i))))) ∧ ∃ σ', w = WC L σ' ∧ cRel σ' Δ) (fun E w => ∃ σ', w = WC L σ' ∧ cRel σ' Δ ∧ ((E = XI ∧ kk1 (okR x) = 1))) := by
  refine gX.of (cc := cX1_told) (maxL := 2) (ret := (some .long)) (own := RX1) (by decide) rfl rfl (Nat.le_of_ble_eq_true rfl) rfl ?_
  intro p e s m args below meth c A Q hC hr hQ hEx hl9
  refine gAloadN (pc := 0) hC dX1_told_0 rfl 0 rfl ?_
  refine gIloadN (pc := 1) hC dX1_told_1 rfl 1 rfl ?_
  refine gVX (pc := 2) (rest := []) (ci := 1) (q0 := 0) hC hEx hl9 (c_X1_rowAt l D L σ x) rfl rfl (cwV 1 hC.2.2.2.2.1 gX1_told_X1_rowAt rfl rfl rfl (by decide +kernel) ⟨Nat.le_of_ble_eq_true rfl, Nat.le_of_ble_eq_true rfl⟩) rfl rfl (Nat.le_of_ble_eq_true rfl) dX1_told_2 ⟨Nat.le_of_ble_eq_true rfl, Nat.le_of_ble_eq_true rfl⟩ hQ (Nat.le_of_ble_eq_true rfl) (Nat.le_of_ble_eq_true rfl) (fun E w1 h => ⟨_, h.2.1, hR, ⟨h.1, kk1_1 h.2.2⟩⟩) (fun v w1 hp => ?_)
  obtain ⟨ok, rfl, rfl⟩ := hp
  refine gStk (st' := [.ref (la L (rI x))]) (pc' := 5) rfl rfl ?_
  obtain ⟨hi, ei⟩ := ok.get
  obtain ⟨hl_, hF⟩ := hR.2.2 (rI x) hi
  have hN := hl_.N
  have hL := hN.le
  refine gV (pc := 5) (rest := []) (ci := 0) (q0 := 2 + 2 * (rI x)) hC (c_X0_toldByDigits l D L σ (rI x) (Δ.2.1 (rI x)) (Δ.2.2 (rI x)) (by omega) hF hL) rfl (wc_row (by omega)) (cwV 0 hC.2.2.2.2.1 gX1_told_X0_toldByDigits rfl rfl rfl (by decide +kernel) ⟨Nat.le_of_ble_eq_true rfl, Nat.le_of_ble_eq_true rfl⟩) rfl rfl (Nat.le_of_ble_eq_true rfl) dX1_told_5 ⟨Nat.le_of_ble_eq_true rfl, Nat.le_of_ble_eq_true rfl⟩ (fun v w1 hp => ?_)
  obtain ⟨rfl, rfl⟩ := hp
  refine gStk (st' := [.long (lN (sn (Δ.2.1 (rI x)) (fun i => ((Δ.2.2 (rI x)) i).val * 2 ^ (4 * i))))]) (pc' := 8) rfl rfl ?_
  exact gRetLX hC hQ hr (Nat.le_of_ble_eq_true rfl) (Nat.le_of_ble_eq_true rfl) dX1_told_8 (⟨kk1_0 ok, rfl, σ, rfl, hR⟩)

abbrev rmX1_shift : Room := { frames := 7, cells := 1, slots := 6, locals := 103 }
set_option maxRecDepth 100000 in
set_option maxHeartbeats 4000000 in
theorem c_X1_shift (l : Launch) (D : va_G) (L : cLay) (σ : cSt) (Δ : dSt) (x : Int32) (y : Int32) (hR : cRel σ Δ)  : gX l yX1_shift wsX1_shift rmX1_shift D (cTy L) (WC L σ) [.ref (lx L), .int x, .int y] 1 6 (fun r w => kk1 (okR x) = 0 ∧ r = some (.int (nI ((fun i => (Δ.2.2 (rI x)) (ix (Δ.2.1 (rI x)) ((i : Int) - y.toInt))) 0).val)) ∧ ∃ σ', w = WC L σ' ∧ cRel σ' (dRow Δ (rI x) (Δ.2.1 (rI x)) (fun i => (Δ.2.2 (rI x)) (ix (Δ.2.1 (rI x)) ((i : Int) - y.toInt))))) (fun E w => ∃ σ', w = WC L σ' ∧ cRel σ' Δ ∧ ((E = XI ∧ kk1 (okR x) = 1))) := by
  refine gX.of (cc := cX1_shift) (maxL := 4) (ret := (some .int)) (own := RX1) (by decide) rfl rfl (Nat.le_of_ble_eq_true rfl) rfl ?_
  intro p e s m args below meth c A Q hC hr hQ hEx hl9
  have hin0 : ∀ w ∈ u_ws RX0 TX0 2, w ∈ wsX1_shift := by decide +kernel
  have hin1 : ∀ w ∈ u_ws RX1 TX1 8, w ∈ wsX1_shift := by decide +kernel
  have hl29 : Cond.fieldLink RX1 29 "Rootrows" "found" "LRootrows$Row;" ∈ wsX1_shift := by decide +kernel
  have hl60 : Cond.fieldLink RX1 60 "Rootrows$Row" "numbers" "[I" ∈ wsX1_shift := by decide +kernel
  refine gAloadN (pc := 0) hC dX1_shift_0 rfl 0 rfl ?_
  refine gIloadN (pc := 1) hC dX1_shift_1 rfl 1 rfl ?_
  refine gVX (pc := 2) (rest := []) (ci := 1) (q0 := 0) hC hEx hl9 (c_X1_rowAt l D L σ x) rfl rfl (cwV 1 hC.2.2.2.2.1 gX1_shift_X1_rowAt rfl rfl rfl (by decide +kernel) ⟨Nat.le_of_ble_eq_true rfl, Nat.le_of_ble_eq_true rfl⟩) rfl rfl (Nat.le_of_ble_eq_true rfl) dX1_shift_2 ⟨Nat.le_of_ble_eq_true rfl, Nat.le_of_ble_eq_true rfl⟩ hQ (Nat.le_of_ble_eq_true rfl) (Nat.le_of_ble_eq_true rfl) (fun E w1 h => ⟨_, h.2.1, hR, ⟨h.1, kk1_1 h.2.2⟩⟩) (fun v w1 hp => ?_)
  obtain ⟨ok, rfl, rfl⟩ := hp
  refine gStk (st' := [.ref (la L (rI x))]) (pc' := 5) rfl rfl ?_
  obtain ⟨hi, ei⟩ := ok.get
  obtain ⟨hl_, hF⟩ := hR.2.2 (rI x) hi
  have hN := hl_.N
  have hL := hN.le
  refine gAstoreN (pc := 5) hC (lv' := [(3, .ref (la L (rI x))), (0, .ref (lx L)), (1, .int x), (2, .int y)]) dX1_shift_5 rfl (by decide) rfl ?_
  refine gAloadN (pc := 6) hC dX1_shift_6 rfl 1 rfl ?_
  refine cGetRow (pc := 7) hC 5 (by decide) rfl hin1 hl29 dX1_shift_7 ?_
  refine gAloadN (pc := 10) hC dX1_shift_10 rfl 0 rfl ?_
  refine gIloadN (pc := 11) hC dX1_shift_11 rfl 3 rfl ?_
  refine gV (pc := 12) (rest := []) (ci := 0) (q0 := 2 + 2 * 8) hC (c_X0_becomeShifted l D L σ 8 (rI x) (Δ.2.1 (rI x)) (Δ.2.2 (rI x)) y (by decide) (by omega) (by omega) hF hN) rfl (wc_row (by decide)) (cwV 2 hC.2.2.2.2.1 gX1_shift_X0_becomeShifted rfl rfl rfl (by decide +kernel) ⟨Nat.le_of_ble_eq_true rfl, Nat.le_of_ble_eq_true rfl⟩) rfl rfl (Nat.le_of_ble_eq_true rfl) dX1_shift_12 ⟨Nat.le_of_ble_eq_true rfl, Nat.le_of_ble_eq_true rfl⟩ (fun v w1 hp => ?_)
  obtain ⟨rfl, τ1, rfl, k1, f1⟩ := hp
  refine gStk (st' := []) (pc' := 15) rfl rfl ?_
  refine gAloadN (pc := 15) hC dX1_shift_15 rfl 0 rfl ?_
  refine gAloadN (pc := 16) hC dX1_shift_16 rfl 1 rfl ?_
  refine cGetRow (pc := 17) hC 5 (by decide) rfl hin1 hl29 dX1_shift_17 ?_
  refine gV (pc := 20) (rest := []) (ci := 0) (q0 := 2 + 2 * (rI x)) hC (c_X0_take l D L τ1 (rI x) 8 (by omega) (by decide)) rfl (wc_row (by omega)) (cwV 1 hC.2.2.2.2.1 gX1_shift_X0_take rfl rfl rfl (by decide +kernel) ⟨Nat.le_of_ble_eq_true rfl, Nat.le_of_ble_eq_true rfl⟩) rfl rfl (Nat.le_of_ble_eq_true rfl) dX1_shift_20 ⟨Nat.le_of_ble_eq_true rfl, Nat.le_of_ble_eq_true rfl⟩ (fun v w1 hp => ?_)
  obtain ⟨rfl, τ3, rfl, h1, h2, h3⟩ := hp
  refine gStk (st' := []) (pc' := 23) rfl rfl ?_
  have f3 : rowIs τ3 (rI x) (Δ.2.1 (rI x)) (fun i => (Δ.2.2 (rI x)) (ix (Δ.2.1 (rI x)) ((i : Int) - y.toInt))) := ⟨h2.trans f1.1, fun j hj => (h3 j (by omega)).trans (f1.2 j hj)⟩
  have hpos : 2 ≤ (Δ.2.1 (rI x)) := by rcases hl_ with h | h | h | h <;> omega
  refine gAloadN (pc := 23) hC dX1_shift_23 rfl 0 rfl ?_
  refine cGetNums (pc := 24) hC (K := (rI x)) (by omega) hin0 hl60 dX1_shift_24 ?_
  refine gIconst (pc := 27) hC (v := (nI 0)) dX1_shift_27 (by decide +kernel) ?_
  refine cNumLd (pc := 28) hC (K := (rI x)) (v := (nI ((fun i => (Δ.2.2 (rI x)) (ix (Δ.2.1 (rI x)) ((i : Int) - y.toInt))) 0).val)) (by omega) 0 (rfl) (by omega) (f3.2 _ (by omega)) dX1_shift_28 ?_
  exact gRetIX hC hQ hr (Nat.le_of_ble_eq_true rfl) (Nat.le_of_ble_eq_true rfl) dX1_shift_29 (⟨kk1_0 ok, rfl, τ3, rfl, (hR.same k1 (by decide)).row h1 hl_ f3⟩)

abbrev rmX1_weigh : Room := { frames := 7, cells := 1, slots := 6, locals := 103 }
set_option maxRecDepth 100000 in
set_option maxHeartbeats 4000000 in
theorem c_X1_weigh (l : Launch) (D : va_G) (L : cLay) (σ : cSt) (Δ : dSt) (x : Int32) (y : Int32) (hR : cRel σ Δ)  : gX l yX1_weigh wsX1_weigh rmX1_weigh D (cTy L) (WC L σ) [.ref (lx L), .int x, .int y] 1 6 (fun r w => kk1 (okR x) = 0 ∧ r = some (.int (nI ((fun i => (Δ.2.2 (rI x)) i * pz ((un Δ.1 (Δ.2.1 (rI x))) * (y.toInt * i))) 1).val)) ∧ ∃ σ', w = WC L σ' ∧ cRel σ' (dRow Δ (rI x) (Δ.2.1 (rI x)) (fun i => (Δ.2.2 (rI x)) i * pz ((un Δ.1 (Δ.2.1 (rI x))) * (y.toInt * i))))) (fun E w => ∃ σ', w = WC L σ' ∧ cRel σ' Δ ∧ ((E = XI ∧ kk1 (okR x) = 1))) := by
  refine gX.of (cc := cX1_weigh) (maxL := 4) (ret := (some .int)) (own := RX1) (by decide) rfl rfl (Nat.le_of_ble_eq_true rfl) rfl ?_
  intro p e s m args below meth c A Q hC hr hQ hEx hl9
  have hin0 : ∀ w ∈ u_ws RX0 TX0 2, w ∈ wsX1_weigh := by decide +kernel
  have hin1 : ∀ w ∈ u_ws RX1 TX1 8, w ∈ wsX1_weigh := by decide +kernel
  have hl29 : Cond.fieldLink RX1 29 "Rootrows" "found" "LRootrows$Row;" ∈ wsX1_weigh := by decide +kernel
  have hl60 : Cond.fieldLink RX1 60 "Rootrows$Row" "numbers" "[I" ∈ wsX1_weigh := by decide +kernel
  refine gAloadN (pc := 0) hC dX1_weigh_0 rfl 0 rfl ?_
  refine gIloadN (pc := 1) hC dX1_weigh_1 rfl 1 rfl ?_
  refine gVX (pc := 2) (rest := []) (ci := 1) (q0 := 0) hC hEx hl9 (c_X1_rowAt l D L σ x) rfl rfl (cwV 1 hC.2.2.2.2.1 gX1_weigh_X1_rowAt rfl rfl rfl (by decide +kernel) ⟨Nat.le_of_ble_eq_true rfl, Nat.le_of_ble_eq_true rfl⟩) rfl rfl (Nat.le_of_ble_eq_true rfl) dX1_weigh_2 ⟨Nat.le_of_ble_eq_true rfl, Nat.le_of_ble_eq_true rfl⟩ hQ (Nat.le_of_ble_eq_true rfl) (Nat.le_of_ble_eq_true rfl) (fun E w1 h => ⟨_, h.2.1, hR, ⟨h.1, kk1_1 h.2.2⟩⟩) (fun v w1 hp => ?_)
  obtain ⟨ok, rfl, rfl⟩ := hp
  refine gStk (st' := [.ref (la L (rI x))]) (pc' := 5) rfl rfl ?_
  obtain ⟨hi, ei⟩ := ok.get
  obtain ⟨hl_, hF⟩ := hR.2.2 (rI x) hi
  have hN := hl_.N
  have hL := hN.le
  refine gAstoreN (pc := 5) hC (lv' := [(3, .ref (la L (rI x))), (0, .ref (lx L)), (1, .int x), (2, .int y)]) dX1_weigh_5 rfl (by decide) rfl ?_
  refine gAloadN (pc := 6) hC dX1_weigh_6 rfl 1 rfl ?_
  refine gAloadN (pc := 7) hC dX1_weigh_7 rfl 0 rfl ?_
  refine gIloadN (pc := 8) hC dX1_weigh_8 rfl 3 rfl ?_
  refine gAloadN (pc := 9) hC dX1_weigh_9 rfl 1 rfl ?_
  refine cGetRow (pc := 10) hC 5 (by decide) rfl hin1 hl29 dX1_weigh_10 ?_
  refine gV (pc := 13) (rest := []) (ci := 1) (q0 := 0) hC (c_X1_weighedRow l D L σ (rI x) 8 (Δ.2.1 (rI x)) Δ.1 (Δ.2.2 (rI x)) y (by decide) (by omega) (by omega) hF hN hR.1) rfl rfl (cwV 3 hC.2.2.2.2.1 gX1_weigh_X1_weighedRow rfl rfl rfl (by decide +kernel) ⟨Nat.le_of_ble_eq_true rfl, Nat.le_of_ble_eq_true rfl⟩) rfl rfl (Nat.le_of_ble_eq_true rfl) dX1_weigh_13 ⟨Nat.le_of_ble_eq_true rfl, Nat.le_of_ble_eq_true rfl⟩ (fun v w1 hp => ?_)
  obtain ⟨rfl, τ1, rfl, k1, f1⟩ := hp
  refine gStk (st' := []) (pc' := 16) rfl rfl ?_
  refine gAloadN (pc := 16) hC dX1_weigh_16 rfl 0 rfl ?_
  refine gAloadN (pc := 17) hC dX1_weigh_17 rfl 1 rfl ?_
  refine cGetRow (pc := 18) hC 5 (by decide) rfl hin1 hl29 dX1_weigh_18 ?_
  refine gV (pc := 21) (rest := []) (ci := 0) (q0 := 2 + 2 * (rI x)) hC (c_X0_take l D L τ1 (rI x) 8 (by omega) (by decide)) rfl (wc_row (by omega)) (cwV 1 hC.2.2.2.2.1 gX1_weigh_X0_take rfl rfl rfl (by decide +kernel) ⟨Nat.le_of_ble_eq_true rfl, Nat.le_of_ble_eq_true rfl⟩) rfl rfl (Nat.le_of_ble_eq_true rfl) dX1_weigh_21 ⟨Nat.le_of_ble_eq_true rfl, Nat.le_of_ble_eq_true rfl⟩ (fun v w1 hp => ?_)
  obtain ⟨rfl, τ3, rfl, h1, h2, h3⟩ := hp
  refine gStk (st' := []) (pc' := 24) rfl rfl ?_
  have f3 : rowIs τ3 (rI x) (Δ.2.1 (rI x)) (fun i => (Δ.2.2 (rI x)) i * pz ((un Δ.1 (Δ.2.1 (rI x))) * (y.toInt * i))) := ⟨h2.trans f1.1, fun j hj => (h3 j (by omega)).trans (f1.2 j hj)⟩
  have hpos : 2 ≤ (Δ.2.1 (rI x)) := by rcases hl_ with h | h | h | h <;> omega
  refine gAloadN (pc := 24) hC dX1_weigh_24 rfl 0 rfl ?_
  refine cGetNums (pc := 25) hC (K := (rI x)) (by omega) hin0 hl60 dX1_weigh_25 ?_
  refine gIconst (pc := 28) hC (v := (nI 1)) dX1_weigh_28 (by decide +kernel) ?_
  refine cNumLd (pc := 29) hC (K := (rI x)) (v := (nI ((fun i => (Δ.2.2 (rI x)) i * pz ((un Δ.1 (Δ.2.1 (rI x))) * (y.toInt * i))) 1).val)) (by omega) 1 (rfl) (by omega) (f3.2 _ (by omega)) dX1_weigh_29 ?_
  exact gRetIX hC hQ hr (Nat.le_of_ble_eq_true rfl) (Nat.le_of_ble_eq_true rfl) dX1_weigh_30 (⟨kk1_0 ok, rfl, τ3, rfl, (hR.same k1 (by decide)).row h1 hl_ f3⟩)

abbrev rmX1_turnRound : Room := { frames := 7, cells := 1, slots := 6, locals := 104 }
set_option maxRecDepth 100000 in
set_option maxHeartbeats 4000000 in
theorem c_X1_turnRound (l : Launch) (D : va_G) (L : cLay) (σ : cSt) (Δ : dSt) (x : Int32) (hR : cRel σ Δ)  : gX l yX1_turnRound wsX1_turnRound rmX1_turnRound D (cTy L) (WC L σ) [.ref (lx L), .int x] 1 6 (fun r w => kk1 (okR x) = 0 ∧ r = some (.int (if 0 < cd (Δ.2.2 (rI x)) (fun i => (Δ.2.2 (rI x)) (ix (Δ.2.1 (rI x)) (-(i : Int)))) (Δ.2.1 (rI x)) then nI 1 else nI 0)) ∧ ∃ σ', w = WC L σ' ∧ cRel σ' (dRow Δ (rI x) (Δ.2.1 (rI x)) (fun i => (Δ.2.2 (rI x)) (ix (Δ.2.1 (rI x)) (-(i : Int)))))) (fun E w => ∃ σ', w = WC L σ' ∧ cRel σ' Δ ∧ ((E = XI ∧ kk1 (okR x) = 1))) := by
  refine gX.of (cc := cX1_turnRound) (maxL := 3) (ret := (some .boolean)) (own := RX1) (by decide) rfl rfl (Nat.le_of_ble_eq_true rfl) rfl ?_
  intro p e s m args below meth c A Q hC hr hQ hEx hl9
  have hin1 : ∀ w ∈ u_ws RX1 TX1 8, w ∈ wsX1_turnRound := by decide +kernel
  have hl29 : Cond.fieldLink RX1 29 "Rootrows" "found" "LRootrows$Row;" ∈ wsX1_turnRound := by decide +kernel
  refine gAloadN (pc := 0) hC dX1_turnRound_0 rfl 0 rfl ?_
  refine gIloadN (pc := 1) hC dX1_turnRound_1 rfl 1 rfl ?_
  refine gVX (pc := 2) (rest := []) (ci := 1) (q0 := 0) hC hEx hl9 (c_X1_rowAt l D L σ x) rfl rfl (cwV 1 hC.2.2.2.2.1 gX1_turnRound_X1_rowAt rfl rfl rfl (by decide +kernel) ⟨Nat.le_of_ble_eq_true rfl, Nat.le_of_ble_eq_true rfl⟩) rfl rfl (Nat.le_of_ble_eq_true rfl) dX1_turnRound_2 ⟨Nat.le_of_ble_eq_true rfl, Nat.le_of_ble_eq_true rfl⟩ hQ (Nat.le_of_ble_eq_true rfl) (Nat.le_of_ble_eq_true rfl) (fun E w1 h => ⟨_, h.2.1, hR, ⟨h.1, kk1_1 h.2.2⟩⟩) (fun v w1 hp => ?_)
  obtain ⟨ok, rfl, rfl⟩ := hp
  refine gStk (st' := [.ref (la L (rI x))]) (pc' := 5) rfl rfl ?_
  obtain ⟨hi, ei⟩ := ok.get
  obtain ⟨hl_, hF⟩ := hR.2.2 (rI x) hi
  have hN := hl_.N
  have hL := hN.le
  refine gAstoreN (pc := 5) hC (lv' := [(2, .ref (la L (rI x))), (0, .ref (lx L)), (1, .int x)]) dX1_turnRound_5 rfl (by decide) rfl ?_
  refine gAloadN (pc := 6) hC dX1_turnRound_6 rfl 1 rfl ?_
  refine cGetRow (pc := 7) hC 5 (by decide) rfl hin1 hl29 dX1_turnRound_7 ?_
  refine gAloadN (pc := 10) hC dX1_turnRound_10 rfl 0 rfl ?_
  refine gV (pc := 11) (rest := []) (ci := 0) (q0 := 2 + 2 * 8) hC (c_X0_becomeTurned l D L σ 8 (rI x) (Δ.2.1 (rI x)) (Δ.2.2 (rI x)) (by decide) (by omega) (by omega) hF hN) rfl (wc_row (by decide)) (cwV 1 hC.2.2.2.2.1 gX1_turnRound_X0_becomeTurned rfl rfl rfl (by decide +kernel) ⟨Nat.le_of_ble_eq_true rfl, Nat.le_of_ble_eq_true rfl⟩) rfl rfl (Nat.le_of_ble_eq_true rfl) dX1_turnRound_11 ⟨Nat.le_of_ble_eq_true rfl, Nat.le_of_ble_eq_true rfl⟩ (fun v w1 hp => ?_)
  obtain ⟨rfl, τ1, rfl, k1, f1⟩ := hp
  refine gStk (st' := []) (pc' := 14) rfl rfl ?_
  refine gAloadN (pc := 14) hC dX1_turnRound_14 rfl 0 rfl ?_
  refine gAloadN (pc := 15) hC dX1_turnRound_15 rfl 1 rfl ?_
  refine cGetRow (pc := 16) hC 5 (by decide) rfl hin1 hl29 dX1_turnRound_16 ?_
  refine gS (pc := 19) (rest := []) hC (c_X1_changed l D L τ1 (rI x) 8 (Δ.2.1 (rI x)) (Δ.2.2 (rI x)) (fun i => (Δ.2.2 (rI x)) (ix (Δ.2.1 (rI x)) (-(i : Int)))) (by omega) (by decide) (hF.kept k1 (by omega)) f1 hL) (va_cwS 2 hC.2.2.2.2.1 gX1_turnRound_X1_changed rfl rfl rfl (by decide +kernel) ⟨Nat.le_of_ble_eq_true rfl, Nat.le_of_ble_eq_true rfl⟩) rfl rfl (Nat.le_of_ble_eq_true rfl) dX1_turnRound_19 ⟨Nat.le_of_ble_eq_true rfl, Nat.le_of_ble_eq_true rfl⟩ (fun v w1 hp => ?_)
  obtain ⟨rfl, τ2, rfl, k2, f2⟩ := hp
  refine gStk (st' := [.int (nI (cd (Δ.2.2 (rI x)) (fun i => (Δ.2.2 (rI x)) (ix (Δ.2.1 (rI x)) (-(i : Int)))) (Δ.2.1 (rI x))))]) (pc' := 22) rfl rfl ?_
  have hcd := cd_le (Δ.2.2 (rI x)) (fun i => (Δ.2.2 (rI x)) (ix (Δ.2.1 (rI x)) (-(i : Int)))) (Δ.2.1 (rI x))
  refine gIf_le (pc := 22) hC (tgt := 29) dX1_turnRound_22 (by decide) (fun hc1 => ?_) (fun hc1 => ?_)
  · skip
    refine gIconst (pc := 29) hC (v := (nI 0)) dX1_turnRound_29 (by decide +kernel) ?_
    exact gRetZX hC hQ hr (rfl) (Nat.le_of_ble_eq_true rfl) (Nat.le_of_ble_eq_true rfl) dX1_turnRound_30 (⟨kk1_0 ok, by rw [if_neg (fun q => absurd hc1 (nI_nle q (by omega)))], τ2, rfl, (hR.same k1 (by decide)).row k2 hl_ f2⟩)
  · skip
    refine gIconst (pc := 25) hC (v := (nI 1)) dX1_turnRound_25 (by decide +kernel) ?_
    refine gGoto (pc := 26) hC (tgt := 30) dX1_turnRound_26 (by decide) ?_
    exact gRetZX hC hQ hr (rfl) (Nat.le_of_ble_eq_true rfl) (Nat.le_of_ble_eq_true rfl) dX1_turnRound_30 (⟨kk1_0 ok, by rw [if_pos (by rcases Nat.eq_zero_or_pos (cd (Δ.2.2 (rI x)) (fun i => (Δ.2.2 (rI x)) (ix (Δ.2.1 (rI x)) (-(i : Int)))) (Δ.2.1 (rI x))) with q | q; (rw [q] at hc1; exact absurd (Int32.le_refl _) hc1); exact q)], τ2, rfl, (hR.same k1 (by decide)).row k2 hl_ f2⟩)

abbrev rmX1_combine : Room := { frames := 7, cells := 3, slots := 18, locals := 103 }
set_option maxRecDepth 100000 in
set_option maxHeartbeats 4000000 in
theorem c_X1_combine (l : Launch) (D : va_G) (L : cLay) (σ : cSt) (Δ : dSt) (x : Int32) (y : Int32) (z : Int32) (hR : cRel σ Δ)  : gX l yX1_combine wsX1_combine rmX1_combine D (cTy L) (WC L σ) [.ref (lx L), .int x, .int y, .int z] 3 18 (fun r w => kk3 (okR x ∧ okR y) (okS z) ((Δ.2.1 (rI x)) = (Δ.2.1 (rI y))) = 0 ∧ r = some (.int (nI (cz (cmb z (Δ.2.2 (rI x)) (Δ.2.2 (rI y))) (Δ.2.1 (rI x))))) ∧ ∃ σ', w = WC L σ' ∧ cRel σ' (dRow Δ (rI x) (Δ.2.1 (rI x)) (cmb z (Δ.2.2 (rI x)) (Δ.2.2 (rI y))))) (fun E w => ∃ σ', w = WC L σ' ∧ cRel σ' Δ ∧ ((E = XI ∧ kk3 (okR x ∧ okR y) (okS z) ((Δ.2.1 (rI x)) = (Δ.2.1 (rI y))) = 1) ∨ (E = XA ∧ kk3 (okR x ∧ okR y) (okS z) ((Δ.2.1 (rI x)) = (Δ.2.1 (rI y))) = 2) ∨ (E = XS ∧ kk3 (okR x ∧ okR y) (okS z) ((Δ.2.1 (rI x)) = (Δ.2.1 (rI y))) = 3))) := by
  refine gX.of (cc := cX1_combine) (maxL := 6) (ret := (some .int)) (own := RX1) (by decide) rfl rfl (Nat.le_of_ble_eq_true rfl) rfl ?_
  intro p e s m args below meth c A Q hC hr hQ hEx hl9
  have hin1 : ∀ w ∈ u_ws RX1 TX1 8, w ∈ wsX1_combine := by decide +kernel
  have hl29 : Cond.fieldLink RX1 29 "Rootrows" "found" "LRootrows$Row;" ∈ wsX1_combine := by decide +kernel
  refine gAloadN (pc := 0) hC dX1_combine_0 rfl 0 rfl ?_
  refine gIloadN (pc := 1) hC dX1_combine_1 rfl 1 rfl ?_
  refine gVX (pc := 2) (rest := []) (ci := 1) (q0 := 0) hC hEx hl9 (c_X1_rowAt l D L σ x) rfl rfl (cwV 1 hC.2.2.2.2.1 gX1_combine_X1_rowAt rfl rfl rfl (by decide +kernel) ⟨Nat.le_of_ble_eq_true rfl, Nat.le_of_ble_eq_true rfl⟩) rfl rfl (Nat.le_of_ble_eq_true rfl) dX1_combine_2 ⟨Nat.le_of_ble_eq_true rfl, Nat.le_of_ble_eq_true rfl⟩ hQ (Nat.le_of_ble_eq_true rfl) (Nat.le_of_ble_eq_true rfl) (fun E w1 h => ⟨_, h.2.1, hR, Or.inl (⟨h.1, kk3_1 (fun q => h.2.2 q.1)⟩)⟩) (fun v w1 hp => ?_)
  obtain ⟨ok, rfl, rfl⟩ := hp
  refine gStk (st' := [.ref (la L (rI x))]) (pc' := 5) rfl rfl ?_
  obtain ⟨hi, ei⟩ := ok.get
  obtain ⟨hl_, hF⟩ := hR.2.2 (rI x) hi
  have hN := hl_.N
  have hL := hN.le
  refine gAstore (pc := 5) hC (lv' := [(4, .ref (la L (rI x))), (0, .ref (lx L)), (1, .int x), (2, .int y), (3, .int z)]) dX1_combine_5 (by decide) rfl ?_
  refine gAloadN (pc := 7) hC dX1_combine_7 rfl 1 rfl ?_
  refine gIloadN (pc := 8) hC dX1_combine_8 rfl 3 rfl ?_
  refine gVX (pc := 9) (rest := []) (ci := 1) (q0 := 0) hC hEx hl9 (c_X1_rowAt l D L σ y) rfl rfl (cwV 1 hC.2.2.2.2.1 gX1_combine_X1_rowAt rfl rfl rfl (by decide +kernel) ⟨Nat.le_of_ble_eq_true rfl, Nat.le_of_ble_eq_true rfl⟩) rfl rfl (Nat.le_of_ble_eq_true rfl) dX1_combine_9 ⟨Nat.le_of_ble_eq_true rfl, Nat.le_of_ble_eq_true rfl⟩ hQ (Nat.le_of_ble_eq_true rfl) (Nat.le_of_ble_eq_true rfl) (fun E w1 h => ⟨_, h.2.1, hR, Or.inl (⟨h.1, kk3_1 (fun q => h.2.2 q.2)⟩)⟩) (fun v w1 hp => ?_)
  obtain ⟨ok2, rfl, rfl⟩ := hp
  refine gStk (st' := [.ref (la L (rI y))]) (pc' := 12) rfl rfl ?_
  obtain ⟨hi2, ei2⟩ := ok2.get
  obtain ⟨hl2_, hF2⟩ := hR.2.2 (rI y) hi2
  have hN2 := hl2_.N
  have hL2 := hN2.le
  refine gAstore (pc := 12) hC (lv' := [(5, .ref (la L (rI y))), (4, .ref (la L (rI x))), (0, .ref (lx L)), (1, .int x), (2, .int y), (3, .int z)]) dX1_combine_12 (by decide) rfl ?_
  refine gIloadN (pc := 14) hC dX1_combine_14 rfl 5 rfl ?_
  refine gBipush (pc := 15) hC (v := (nI 43)) dX1_combine_15 (by decide +kernel) ?_
  refine gIcmp_eq (pc := 17) hC (tgt := 42) dX1_combine_17 (by decide) (fun hc1 => ?_) (fun hc1 => ?_)
  · skip
    have oks : okS z := Or.inl hc1
    refine gAload (pc := 42) hC dX1_combine_42 1 rfl ?_
    refine gAload (pc := 44) hC dX1_combine_44 0 rfl ?_
    refine gSX (pc := 46) (rest := []) hC hEx hl9 (c_X1_needAlike l D L σ (rI x) (rI y) (Δ.2.1 (rI x)) (Δ.2.1 (rI y)) (Δ.2.2 (rI x)) (Δ.2.2 (rI y)) (by omega) (by omega) hF hF2 hL hL2) (va_cwS 2 hC.2.2.2.2.1 gX1_combine_X1_needAlike rfl rfl rfl (by decide +kernel) ⟨Nat.le_of_ble_eq_true rfl, Nat.le_of_ble_eq_true rfl⟩) rfl rfl (Nat.le_of_ble_eq_true rfl) dX1_combine_46 ⟨Nat.le_of_ble_eq_true rfl, Nat.le_of_ble_eq_true rfl⟩ hQ (Nat.le_of_ble_eq_true rfl) (Nat.le_of_ble_eq_true rfl) (fun E w1 h => ⟨_, h.2.1, hR, Or.inr (Or.inr (⟨h.1, kk3_3 ⟨ok, ok2⟩ oks h.2.2⟩))⟩) (fun v w1 hp => ?_)
    obtain ⟨oka, rfl, rfl⟩ := hp
    refine gStk (st' := []) (pc' := 49) rfl rfl ?_
    have hG : rowIs σ (rI y) (Δ.2.1 (rI x)) (Δ.2.2 (rI y)) := by rw [oka]; exact hF2
    refine gIloadN (pc := 49) hC dX1_combine_49 rfl 5 rfl ?_
    refine gBipush (pc := 50) hC (v := (nI 43)) dX1_combine_50 (by decide +kernel) ?_
    refine gIcmp_ne (pc := 52) hC (tgt := 69) dX1_combine_52 (by decide) (fun hc2 => ?_) (fun hc2 => ?_)
    · skip
      refine gIloadN (pc := 69) hC dX1_combine_69 rfl 5 rfl ?_
      refine gBipush (pc := 70) hC (v := (nI 45)) dX1_combine_70 (by decide +kernel) ?_
      refine gIcmp_ne (pc := 72) hC (tgt := 89) dX1_combine_72 (by decide) (fun hc3 => ?_) (fun hc3 => ?_)
      · skip
        have ec : ∀ i, (Δ.2.2 (rI x)) i * (Δ.2.2 (rI y)) i = (cmb z (Δ.2.2 (rI x)) (Δ.2.2 (rI y))) i := fun i => by unfold cmb; rw [if_neg hc2, if_neg hc3]
        refine gAloadN (pc := 89) hC dX1_combine_89 rfl 2 rfl ?_
        refine cGetRow (pc := 90) hC 5 (by decide) rfl hin1 hl29 dX1_combine_90 ?_
        refine gAload (pc := 93) hC dX1_combine_93 1 rfl ?_
        refine gAload (pc := 95) hC dX1_combine_95 0 rfl ?_
        refine gV (pc := 97) (rest := []) (ci := 0) (q0 := 2 + 2 * 8) hC (c_X0_becomeProducts l D L σ 8 (rI x) (rI y) (Δ.2.1 (rI x)) (Δ.2.2 (rI x)) (Δ.2.2 (rI y)) (by decide) (by omega) (by omega) hF hG hN) rfl (wc_row (by decide)) (cwV 2 hC.2.2.2.2.1 gX1_combine_X0_becomeProducts rfl rfl rfl (by decide +kernel) ⟨Nat.le_of_ble_eq_true rfl, Nat.le_of_ble_eq_true rfl⟩) rfl rfl (Nat.le_of_ble_eq_true rfl) dX1_combine_97 ⟨Nat.le_of_ble_eq_true rfl, Nat.le_of_ble_eq_true rfl⟩ (fun v w1 hp => ?_)
        obtain ⟨rfl, τ1, rfl, k1, f1⟩ := hp
        refine gStk (st' := []) (pc' := 100) rfl rfl ?_
        refine gAload (pc := 100) hC dX1_combine_100 1 rfl ?_
        refine gAloadN (pc := 102) hC dX1_combine_102 rfl 2 rfl ?_
        refine cGetRow (pc := 103) hC 5 (by decide) rfl hin1 hl29 dX1_combine_103 ?_
        refine gS (pc := 106) (rest := []) hC (c_X1_zerosAsNow l D L τ1 (rI x) 8 (Δ.2.1 (rI x)) (cmb z (Δ.2.2 (rI x)) (Δ.2.2 (rI y))) (by omega) (by decide) (f1.cong (fun j _ => ec j)) (by omega)) (va_cwS 2 hC.2.2.2.2.1 gX1_combine_X1_zerosAsNow rfl rfl rfl (by decide +kernel) ⟨Nat.le_of_ble_eq_true rfl, Nat.le_of_ble_eq_true rfl⟩) rfl rfl (Nat.le_of_ble_eq_true rfl) dX1_combine_106 ⟨Nat.le_of_ble_eq_true rfl, Nat.le_of_ble_eq_true rfl⟩ (fun v w1 hp => ?_)
        obtain ⟨rfl, τz, rfl, kz, fz⟩ := hp
        refine gStk (st' := [.int (nI (cz (cmb z (Δ.2.2 (rI x)) (Δ.2.2 (rI y))) (Δ.2.1 (rI x))))]) (pc' := 109) rfl rfl ?_
        exact gRetIX hC hQ hr (Nat.le_of_ble_eq_true rfl) (Nat.le_of_ble_eq_true rfl) dX1_combine_109 (⟨kk3_0 (⟨ok, ok2⟩) oks oka, rfl, τz, rfl, (hR.same k1 (by decide)).row kz hl_ fz⟩)
      · skip
        have ec : ∀ i, (Δ.2.2 (rI x)) i - (Δ.2.2 (rI y)) i = (cmb z (Δ.2.2 (rI x)) (Δ.2.2 (rI y))) i := fun i => by unfold cmb; rw [if_neg hc2, if_pos hc3]
        refine gAloadN (pc := 75) hC dX1_combine_75 rfl 2 rfl ?_
        refine cGetRow (pc := 76) hC 5 (by decide) rfl hin1 hl29 dX1_combine_76 ?_
        refine gAload (pc := 79) hC dX1_combine_79 1 rfl ?_
        refine gAload (pc := 81) hC dX1_combine_81 0 rfl ?_
        refine gV (pc := 83) (rest := []) (ci := 0) (q0 := 2 + 2 * 8) hC (c_X0_becomeDifferences l D L σ 8 (rI x) (rI y) (Δ.2.1 (rI x)) (Δ.2.2 (rI x)) (Δ.2.2 (rI y)) (by decide) (by omega) (by omega) hF hG hN) rfl (wc_row (by decide)) (cwV 2 hC.2.2.2.2.1 gX1_combine_X0_becomeDifferences rfl rfl rfl (by decide +kernel) ⟨Nat.le_of_ble_eq_true rfl, Nat.le_of_ble_eq_true rfl⟩) rfl rfl (Nat.le_of_ble_eq_true rfl) dX1_combine_83 ⟨Nat.le_of_ble_eq_true rfl, Nat.le_of_ble_eq_true rfl⟩ (fun v w1 hp => ?_)
        obtain ⟨rfl, τ1, rfl, k1, f1⟩ := hp
        refine gStk (st' := []) (pc' := 86) rfl rfl ?_
        refine gGoto (pc := 86) hC (tgt := 100) dX1_combine_86 (by decide) ?_
        refine gAload (pc := 100) hC dX1_combine_100 1 rfl ?_
        refine gAloadN (pc := 102) hC dX1_combine_102 rfl 2 rfl ?_
        refine cGetRow (pc := 103) hC 5 (by decide) rfl hin1 hl29 dX1_combine_103 ?_
        refine gS (pc := 106) (rest := []) hC (c_X1_zerosAsNow l D L τ1 (rI x) 8 (Δ.2.1 (rI x)) (cmb z (Δ.2.2 (rI x)) (Δ.2.2 (rI y))) (by omega) (by decide) (f1.cong (fun j _ => ec j)) (by omega)) (va_cwS 2 hC.2.2.2.2.1 gX1_combine_X1_zerosAsNow rfl rfl rfl (by decide +kernel) ⟨Nat.le_of_ble_eq_true rfl, Nat.le_of_ble_eq_true rfl⟩) rfl rfl (Nat.le_of_ble_eq_true rfl) dX1_combine_106 ⟨Nat.le_of_ble_eq_true rfl, Nat.le_of_ble_eq_true rfl⟩ (fun v w1 hp => ?_)
        obtain ⟨rfl, τz, rfl, kz, fz⟩ := hp
        refine gStk (st' := [.int (nI (cz (cmb z (Δ.2.2 (rI x)) (Δ.2.2 (rI y))) (Δ.2.1 (rI x))))]) (pc' := 109) rfl rfl ?_
        exact gRetIX hC hQ hr (Nat.le_of_ble_eq_true rfl) (Nat.le_of_ble_eq_true rfl) dX1_combine_109 (⟨kk3_0 (⟨ok, ok2⟩) oks oka, rfl, τz, rfl, (hR.same k1 (by decide)).row kz hl_ fz⟩)
    · skip
      have ec : ∀ i, (Δ.2.2 (rI x)) i + (Δ.2.2 (rI y)) i = (cmb z (Δ.2.2 (rI x)) (Δ.2.2 (rI y))) i := fun i => by unfold cmb; rw [if_pos hc2]
      refine gAloadN (pc := 55) hC dX1_combine_55 rfl 2 rfl ?_
      refine cGetRow (pc := 56) hC 5 (by decide) rfl hin1 hl29 dX1_combine_56 ?_
      refine gAload (pc := 59) hC dX1_combine_59 1 rfl ?_
      refine gAload (pc := 61) hC dX1_combine_61 0 rfl ?_
      refine gV (pc := 63) (rest := []) (ci := 0) (q0 := 2 + 2 * 8) hC (c_X0_becomeSums l D L σ 8 (rI x) (rI y) (Δ.2.1 (rI x)) (Δ.2.2 (rI x)) (Δ.2.2 (rI y)) (by decide) (by omega) (by omega) hF hG hN) rfl (wc_row (by decide)) (cwV 2 hC.2.2.2.2.1 gX1_combine_X0_becomeSums rfl rfl rfl (by decide +kernel) ⟨Nat.le_of_ble_eq_true rfl, Nat.le_of_ble_eq_true rfl⟩) rfl rfl (Nat.le_of_ble_eq_true rfl) dX1_combine_63 ⟨Nat.le_of_ble_eq_true rfl, Nat.le_of_ble_eq_true rfl⟩ (fun v w1 hp => ?_)
      obtain ⟨rfl, τ1, rfl, k1, f1⟩ := hp
      refine gStk (st' := []) (pc' := 66) rfl rfl ?_
      refine gGoto (pc := 66) hC (tgt := 100) dX1_combine_66 (by decide) ?_
      refine gAload (pc := 100) hC dX1_combine_100 1 rfl ?_
      refine gAloadN (pc := 102) hC dX1_combine_102 rfl 2 rfl ?_
      refine cGetRow (pc := 103) hC 5 (by decide) rfl hin1 hl29 dX1_combine_103 ?_
      refine gS (pc := 106) (rest := []) hC (c_X1_zerosAsNow l D L τ1 (rI x) 8 (Δ.2.1 (rI x)) (cmb z (Δ.2.2 (rI x)) (Δ.2.2 (rI y))) (by omega) (by decide) (f1.cong (fun j _ => ec j)) (by omega)) (va_cwS 2 hC.2.2.2.2.1 gX1_combine_X1_zerosAsNow rfl rfl rfl (by decide +kernel) ⟨Nat.le_of_ble_eq_true rfl, Nat.le_of_ble_eq_true rfl⟩) rfl rfl (Nat.le_of_ble_eq_true rfl) dX1_combine_106 ⟨Nat.le_of_ble_eq_true rfl, Nat.le_of_ble_eq_true rfl⟩ (fun v w1 hp => ?_)
      obtain ⟨rfl, τz, rfl, kz, fz⟩ := hp
      refine gStk (st' := [.int (nI (cz (cmb z (Δ.2.2 (rI x)) (Δ.2.2 (rI y))) (Δ.2.1 (rI x))))]) (pc' := 109) rfl rfl ?_
      exact gRetIX hC hQ hr (Nat.le_of_ble_eq_true rfl) (Nat.le_of_ble_eq_true rfl) dX1_combine_109 (⟨kk3_0 (⟨ok, ok2⟩) oks oka, rfl, τz, rfl, (hR.same k1 (by decide)).row kz hl_ fz⟩)
  · skip
    refine gIloadN (pc := 20) hC dX1_combine_20 rfl 5 rfl ?_
    refine gBipush (pc := 21) hC (v := (nI 45)) dX1_combine_21 (by decide +kernel) ?_
    refine gIcmp_eq (pc := 23) hC (tgt := 42) dX1_combine_23 (by decide) (fun hc4 => ?_) (fun hc4 => ?_)
    · skip
      have oks : okS z := Or.inr (Or.inl hc4)
      refine gAload (pc := 42) hC dX1_combine_42 1 rfl ?_
      refine gAload (pc := 44) hC dX1_combine_44 0 rfl ?_
      refine gSX (pc := 46) (rest := []) hC hEx hl9 (c_X1_needAlike l D L σ (rI x) (rI y) (Δ.2.1 (rI x)) (Δ.2.1 (rI y)) (Δ.2.2 (rI x)) (Δ.2.2 (rI y)) (by omega) (by omega) hF hF2 hL hL2) (va_cwS 2 hC.2.2.2.2.1 gX1_combine_X1_needAlike rfl rfl rfl (by decide +kernel) ⟨Nat.le_of_ble_eq_true rfl, Nat.le_of_ble_eq_true rfl⟩) rfl rfl (Nat.le_of_ble_eq_true rfl) dX1_combine_46 ⟨Nat.le_of_ble_eq_true rfl, Nat.le_of_ble_eq_true rfl⟩ hQ (Nat.le_of_ble_eq_true rfl) (Nat.le_of_ble_eq_true rfl) (fun E w1 h => ⟨_, h.2.1, hR, Or.inr (Or.inr (⟨h.1, kk3_3 ⟨ok, ok2⟩ oks h.2.2⟩))⟩) (fun v w1 hp => ?_)
      obtain ⟨oka, rfl, rfl⟩ := hp
      refine gStk (st' := []) (pc' := 49) rfl rfl ?_
      have hG : rowIs σ (rI y) (Δ.2.1 (rI x)) (Δ.2.2 (rI y)) := by rw [oka]; exact hF2
      refine gIloadN (pc := 49) hC dX1_combine_49 rfl 5 rfl ?_
      refine gBipush (pc := 50) hC (v := (nI 43)) dX1_combine_50 (by decide +kernel) ?_
      refine gIcmp_ne (pc := 52) hC (tgt := 69) dX1_combine_52 (by decide) (fun hc5 => ?_) (fun hc5 => ?_)
      · skip
        refine gIloadN (pc := 69) hC dX1_combine_69 rfl 5 rfl ?_
        refine gBipush (pc := 70) hC (v := (nI 45)) dX1_combine_70 (by decide +kernel) ?_
        refine gIcmp_ne (pc := 72) hC (tgt := 89) dX1_combine_72 (by decide) (fun hc6 => ?_) (fun hc6 => ?_)
        · skip
          have ec : ∀ i, (Δ.2.2 (rI x)) i * (Δ.2.2 (rI y)) i = (cmb z (Δ.2.2 (rI x)) (Δ.2.2 (rI y))) i := fun i => by unfold cmb; rw [if_neg hc5, if_neg hc6]
          refine gAloadN (pc := 89) hC dX1_combine_89 rfl 2 rfl ?_
          refine cGetRow (pc := 90) hC 5 (by decide) rfl hin1 hl29 dX1_combine_90 ?_
          refine gAload (pc := 93) hC dX1_combine_93 1 rfl ?_
          refine gAload (pc := 95) hC dX1_combine_95 0 rfl ?_
          refine gV (pc := 97) (rest := []) (ci := 0) (q0 := 2 + 2 * 8) hC (c_X0_becomeProducts l D L σ 8 (rI x) (rI y) (Δ.2.1 (rI x)) (Δ.2.2 (rI x)) (Δ.2.2 (rI y)) (by decide) (by omega) (by omega) hF hG hN) rfl (wc_row (by decide)) (cwV 2 hC.2.2.2.2.1 gX1_combine_X0_becomeProducts rfl rfl rfl (by decide +kernel) ⟨Nat.le_of_ble_eq_true rfl, Nat.le_of_ble_eq_true rfl⟩) rfl rfl (Nat.le_of_ble_eq_true rfl) dX1_combine_97 ⟨Nat.le_of_ble_eq_true rfl, Nat.le_of_ble_eq_true rfl⟩ (fun v w1 hp => ?_)
          obtain ⟨rfl, τ1, rfl, k1, f1⟩ := hp
          refine gStk (st' := []) (pc' := 100) rfl rfl ?_
          refine gAload (pc := 100) hC dX1_combine_100 1 rfl ?_
          refine gAloadN (pc := 102) hC dX1_combine_102 rfl 2 rfl ?_
          refine cGetRow (pc := 103) hC 5 (by decide) rfl hin1 hl29 dX1_combine_103 ?_
          refine gS (pc := 106) (rest := []) hC (c_X1_zerosAsNow l D L τ1 (rI x) 8 (Δ.2.1 (rI x)) (cmb z (Δ.2.2 (rI x)) (Δ.2.2 (rI y))) (by omega) (by decide) (f1.cong (fun j _ => ec j)) (by omega)) (va_cwS 2 hC.2.2.2.2.1 gX1_combine_X1_zerosAsNow rfl rfl rfl (by decide +kernel) ⟨Nat.le_of_ble_eq_true rfl, Nat.le_of_ble_eq_true rfl⟩) rfl rfl (Nat.le_of_ble_eq_true rfl) dX1_combine_106 ⟨Nat.le_of_ble_eq_true rfl, Nat.le_of_ble_eq_true rfl⟩ (fun v w1 hp => ?_)
          obtain ⟨rfl, τz, rfl, kz, fz⟩ := hp
          refine gStk (st' := [.int (nI (cz (cmb z (Δ.2.2 (rI x)) (Δ.2.2 (rI y))) (Δ.2.1 (rI x))))]) (pc' := 109) rfl rfl ?_
          exact gRetIX hC hQ hr (Nat.le_of_ble_eq_true rfl) (Nat.le_of_ble_eq_true rfl) dX1_combine_109 (⟨kk3_0 (⟨ok, ok2⟩) oks oka, rfl, τz, rfl, (hR.same k1 (by decide)).row kz hl_ fz⟩)
        · skip
          have ec : ∀ i, (Δ.2.2 (rI x)) i - (Δ.2.2 (rI y)) i = (cmb z (Δ.2.2 (rI x)) (Δ.2.2 (rI y))) i := fun i => by unfold cmb; rw [if_neg hc5, if_pos hc6]
          refine gAloadN (pc := 75) hC dX1_combine_75 rfl 2 rfl ?_
          refine cGetRow (pc := 76) hC 5 (by decide) rfl hin1 hl29 dX1_combine_76 ?_
          refine gAload (pc := 79) hC dX1_combine_79 1 rfl ?_
          refine gAload (pc := 81) hC dX1_combine_81 0 rfl ?_
          refine gV (pc := 83) (rest := []) (ci := 0) (q0 := 2 + 2 * 8) hC (c_X0_becomeDifferences l D L σ 8 (rI x) (rI y) (Δ.2.1 (rI x)) (Δ.2.2 (rI x)) (Δ.2.2 (rI y)) (by decide) (by omega) (by omega) hF hG hN) rfl (wc_row (by decide)) (cwV 2 hC.2.2.2.2.1 gX1_combine_X0_becomeDifferences rfl rfl rfl (by decide +kernel) ⟨Nat.le_of_ble_eq_true rfl, Nat.le_of_ble_eq_true rfl⟩) rfl rfl (Nat.le_of_ble_eq_true rfl) dX1_combine_83 ⟨Nat.le_of_ble_eq_true rfl, Nat.le_of_ble_eq_true rfl⟩ (fun v w1 hp => ?_)
          obtain ⟨rfl, τ1, rfl, k1, f1⟩ := hp
          refine gStk (st' := []) (pc' := 86) rfl rfl ?_
          refine gGoto (pc := 86) hC (tgt := 100) dX1_combine_86 (by decide) ?_
          refine gAload (pc := 100) hC dX1_combine_100 1 rfl ?_
          refine gAloadN (pc := 102) hC dX1_combine_102 rfl 2 rfl ?_
          refine cGetRow (pc := 103) hC 5 (by decide) rfl hin1 hl29 dX1_combine_103 ?_
          refine gS (pc := 106) (rest := []) hC (c_X1_zerosAsNow l D L τ1 (rI x) 8 (Δ.2.1 (rI x)) (cmb z (Δ.2.2 (rI x)) (Δ.2.2 (rI y))) (by omega) (by decide) (f1.cong (fun j _ => ec j)) (by omega)) (va_cwS 2 hC.2.2.2.2.1 gX1_combine_X1_zerosAsNow rfl rfl rfl (by decide +kernel) ⟨Nat.le_of_ble_eq_true rfl, Nat.le_of_ble_eq_true rfl⟩) rfl rfl (Nat.le_of_ble_eq_true rfl) dX1_combine_106 ⟨Nat.le_of_ble_eq_true rfl, Nat.le_of_ble_eq_true rfl⟩ (fun v w1 hp => ?_)
          obtain ⟨rfl, τz, rfl, kz, fz⟩ := hp
          refine gStk (st' := [.int (nI (cz (cmb z (Δ.2.2 (rI x)) (Δ.2.2 (rI y))) (Δ.2.1 (rI x))))]) (pc' := 109) rfl rfl ?_
          exact gRetIX hC hQ hr (Nat.le_of_ble_eq_true rfl) (Nat.le_of_ble_eq_true rfl) dX1_combine_109 (⟨kk3_0 (⟨ok, ok2⟩) oks oka, rfl, τz, rfl, (hR.same k1 (by decide)).row kz hl_ fz⟩)
      · skip
        have ec : ∀ i, (Δ.2.2 (rI x)) i + (Δ.2.2 (rI y)) i = (cmb z (Δ.2.2 (rI x)) (Δ.2.2 (rI y))) i := fun i => by unfold cmb; rw [if_pos hc5]
        refine gAloadN (pc := 55) hC dX1_combine_55 rfl 2 rfl ?_
        refine cGetRow (pc := 56) hC 5 (by decide) rfl hin1 hl29 dX1_combine_56 ?_
        refine gAload (pc := 59) hC dX1_combine_59 1 rfl ?_
        refine gAload (pc := 61) hC dX1_combine_61 0 rfl ?_
        refine gV (pc := 63) (rest := []) (ci := 0) (q0 := 2 + 2 * 8) hC (c_X0_becomeSums l D L σ 8 (rI x) (rI y) (Δ.2.1 (rI x)) (Δ.2.2 (rI x)) (Δ.2.2 (rI y)) (by decide) (by omega) (by omega) hF hG hN) rfl (wc_row (by decide)) (cwV 2 hC.2.2.2.2.1 gX1_combine_X0_becomeSums rfl rfl rfl (by decide +kernel) ⟨Nat.le_of_ble_eq_true rfl, Nat.le_of_ble_eq_true rfl⟩) rfl rfl (Nat.le_of_ble_eq_true rfl) dX1_combine_63 ⟨Nat.le_of_ble_eq_true rfl, Nat.le_of_ble_eq_true rfl⟩ (fun v w1 hp => ?_)
        obtain ⟨rfl, τ1, rfl, k1, f1⟩ := hp
        refine gStk (st' := []) (pc' := 66) rfl rfl ?_
        refine gGoto (pc := 66) hC (tgt := 100) dX1_combine_66 (by decide) ?_
        refine gAload (pc := 100) hC dX1_combine_100 1 rfl ?_
        refine gAloadN (pc := 102) hC dX1_combine_102 rfl 2 rfl ?_
        refine cGetRow (pc := 103) hC 5 (by decide) rfl hin1 hl29 dX1_combine_103 ?_
        refine gS (pc := 106) (rest := []) hC (c_X1_zerosAsNow l D L τ1 (rI x) 8 (Δ.2.1 (rI x)) (cmb z (Δ.2.2 (rI x)) (Δ.2.2 (rI y))) (by omega) (by decide) (f1.cong (fun j _ => ec j)) (by omega)) (va_cwS 2 hC.2.2.2.2.1 gX1_combine_X1_zerosAsNow rfl rfl rfl (by decide +kernel) ⟨Nat.le_of_ble_eq_true rfl, Nat.le_of_ble_eq_true rfl⟩) rfl rfl (Nat.le_of_ble_eq_true rfl) dX1_combine_106 ⟨Nat.le_of_ble_eq_true rfl, Nat.le_of_ble_eq_true rfl⟩ (fun v w1 hp => ?_)
        obtain ⟨rfl, τz, rfl, kz, fz⟩ := hp
        refine gStk (st' := [.int (nI (cz (cmb z (Δ.2.2 (rI x)) (Δ.2.2 (rI y))) (Δ.2.1 (rI x))))]) (pc' := 109) rfl rfl ?_
        exact gRetIX hC hQ hr (Nat.le_of_ble_eq_true rfl) (Nat.le_of_ble_eq_true rfl) dX1_combine_109 (⟨kk3_0 (⟨ok, ok2⟩) oks oka, rfl, τz, rfl, (hR.same k1 (by decide)).row kz hl_ fz⟩)
    · skip
      refine gIloadN (pc := 26) hC dX1_combine_26 rfl 5 rfl ?_
      refine gBipush (pc := 27) hC (v := (nI 42)) dX1_combine_27 (by decide +kernel) ?_
      refine gIcmp_eq (pc := 29) hC (tgt := 42) dX1_combine_29 (by decide) (fun hc7 => ?_) (fun hc7 => ?_)
      · skip
        have oks : okS z := Or.inr (Or.inr hc7)
        refine gAload (pc := 42) hC dX1_combine_42 1 rfl ?_
        refine gAload (pc := 44) hC dX1_combine_44 0 rfl ?_
        refine gSX (pc := 46) (rest := []) hC hEx hl9 (c_X1_needAlike l D L σ (rI x) (rI y) (Δ.2.1 (rI x)) (Δ.2.1 (rI y)) (Δ.2.2 (rI x)) (Δ.2.2 (rI y)) (by omega) (by omega) hF hF2 hL hL2) (va_cwS 2 hC.2.2.2.2.1 gX1_combine_X1_needAlike rfl rfl rfl (by decide +kernel) ⟨Nat.le_of_ble_eq_true rfl, Nat.le_of_ble_eq_true rfl⟩) rfl rfl (Nat.le_of_ble_eq_true rfl) dX1_combine_46 ⟨Nat.le_of_ble_eq_true rfl, Nat.le_of_ble_eq_true rfl⟩ hQ (Nat.le_of_ble_eq_true rfl) (Nat.le_of_ble_eq_true rfl) (fun E w1 h => ⟨_, h.2.1, hR, Or.inr (Or.inr (⟨h.1, kk3_3 ⟨ok, ok2⟩ oks h.2.2⟩))⟩) (fun v w1 hp => ?_)
        obtain ⟨oka, rfl, rfl⟩ := hp
        refine gStk (st' := []) (pc' := 49) rfl rfl ?_
        have hG : rowIs σ (rI y) (Δ.2.1 (rI x)) (Δ.2.2 (rI y)) := by rw [oka]; exact hF2
        refine gIloadN (pc := 49) hC dX1_combine_49 rfl 5 rfl ?_
        refine gBipush (pc := 50) hC (v := (nI 43)) dX1_combine_50 (by decide +kernel) ?_
        refine gIcmp_ne (pc := 52) hC (tgt := 69) dX1_combine_52 (by decide) (fun hc8 => ?_) (fun hc8 => ?_)
        · skip
          refine gIloadN (pc := 69) hC dX1_combine_69 rfl 5 rfl ?_
          refine gBipush (pc := 70) hC (v := (nI 45)) dX1_combine_70 (by decide +kernel) ?_
          refine gIcmp_ne (pc := 72) hC (tgt := 89) dX1_combine_72 (by decide) (fun hc9 => ?_) (fun hc9 => ?_)
          · skip
            have ec : ∀ i, (Δ.2.2 (rI x)) i * (Δ.2.2 (rI y)) i = (cmb z (Δ.2.2 (rI x)) (Δ.2.2 (rI y))) i := fun i => by unfold cmb; rw [if_neg hc8, if_neg hc9]
            refine gAloadN (pc := 89) hC dX1_combine_89 rfl 2 rfl ?_
            refine cGetRow (pc := 90) hC 5 (by decide) rfl hin1 hl29 dX1_combine_90 ?_
            refine gAload (pc := 93) hC dX1_combine_93 1 rfl ?_
            refine gAload (pc := 95) hC dX1_combine_95 0 rfl ?_
            refine gV (pc := 97) (rest := []) (ci := 0) (q0 := 2 + 2 * 8) hC (c_X0_becomeProducts l D L σ 8 (rI x) (rI y) (Δ.2.1 (rI x)) (Δ.2.2 (rI x)) (Δ.2.2 (rI y)) (by decide) (by omega) (by omega) hF hG hN) rfl (wc_row (by decide)) (cwV 2 hC.2.2.2.2.1 gX1_combine_X0_becomeProducts rfl rfl rfl (by decide +kernel) ⟨Nat.le_of_ble_eq_true rfl, Nat.le_of_ble_eq_true rfl⟩) rfl rfl (Nat.le_of_ble_eq_true rfl) dX1_combine_97 ⟨Nat.le_of_ble_eq_true rfl, Nat.le_of_ble_eq_true rfl⟩ (fun v w1 hp => ?_)
            obtain ⟨rfl, τ1, rfl, k1, f1⟩ := hp
            refine gStk (st' := []) (pc' := 100) rfl rfl ?_
            refine gAload (pc := 100) hC dX1_combine_100 1 rfl ?_
            refine gAloadN (pc := 102) hC dX1_combine_102 rfl 2 rfl ?_
            refine cGetRow (pc := 103) hC 5 (by decide) rfl hin1 hl29 dX1_combine_103 ?_
            refine gS (pc := 106) (rest := []) hC (c_X1_zerosAsNow l D L τ1 (rI x) 8 (Δ.2.1 (rI x)) (cmb z (Δ.2.2 (rI x)) (Δ.2.2 (rI y))) (by omega) (by decide) (f1.cong (fun j _ => ec j)) (by omega)) (va_cwS 2 hC.2.2.2.2.1 gX1_combine_X1_zerosAsNow rfl rfl rfl (by decide +kernel) ⟨Nat.le_of_ble_eq_true rfl, Nat.le_of_ble_eq_true rfl⟩) rfl rfl (Nat.le_of_ble_eq_true rfl) dX1_combine_106 ⟨Nat.le_of_ble_eq_true rfl, Nat.le_of_ble_eq_true rfl⟩ (fun v w1 hp => ?_)
            obtain ⟨rfl, τz, rfl, kz, fz⟩ := hp
            refine gStk (st' := [.int (nI (cz (cmb z (Δ.2.2 (rI x)) (Δ.2.2 (rI y))) (Δ.2.1 (rI x))))]) (pc' := 109) rfl rfl ?_
            exact gRetIX hC hQ hr (Nat.le_of_ble_eq_true rfl) (Nat.le_of_ble_eq_true rfl) dX1_combine_109 (⟨kk3_0 (⟨ok, ok2⟩) oks oka, rfl, τz, rfl, (hR.same k1 (by decide)).row kz hl_ fz⟩)
          · skip
            have ec : ∀ i, (Δ.2.2 (rI x)) i - (Δ.2.2 (rI y)) i = (cmb z (Δ.2.2 (rI x)) (Δ.2.2 (rI y))) i := fun i => by unfold cmb; rw [if_neg hc8, if_pos hc9]
            refine gAloadN (pc := 75) hC dX1_combine_75 rfl 2 rfl ?_
            refine cGetRow (pc := 76) hC 5 (by decide) rfl hin1 hl29 dX1_combine_76 ?_
            refine gAload (pc := 79) hC dX1_combine_79 1 rfl ?_
            refine gAload (pc := 81) hC dX1_combine_81 0 rfl ?_
            refine gV (pc := 83) (rest := []) (ci := 0) (q0 := 2 + 2 * 8) hC (c_X0_becomeDifferences l D L σ 8 (rI x) (rI y) (Δ.2.1 (rI x)) (Δ.2.2 (rI x)) (Δ.2.2 (rI y)) (by decide) (by omega) (by omega) hF hG hN) rfl (wc_row (by decide)) (cwV 2 hC.2.2.2.2.1 gX1_combine_X0_becomeDifferences rfl rfl rfl (by decide +kernel) ⟨Nat.le_of_ble_eq_true rfl, Nat.le_of_ble_eq_true rfl⟩) rfl rfl (Nat.le_of_ble_eq_true rfl) dX1_combine_83 ⟨Nat.le_of_ble_eq_true rfl, Nat.le_of_ble_eq_true rfl⟩ (fun v w1 hp => ?_)
            obtain ⟨rfl, τ1, rfl, k1, f1⟩ := hp
            refine gStk (st' := []) (pc' := 86) rfl rfl ?_
            refine gGoto (pc := 86) hC (tgt := 100) dX1_combine_86 (by decide) ?_
            refine gAload (pc := 100) hC dX1_combine_100 1 rfl ?_
            refine gAloadN (pc := 102) hC dX1_combine_102 rfl 2 rfl ?_
            refine cGetRow (pc := 103) hC 5 (by decide) rfl hin1 hl29 dX1_combine_103 ?_
            refine gS (pc := 106) (rest := []) hC (c_X1_zerosAsNow l D L τ1 (rI x) 8 (Δ.2.1 (rI x)) (cmb z (Δ.2.2 (rI x)) (Δ.2.2 (rI y))) (by omega) (by decide) (f1.cong (fun j _ => ec j)) (by omega)) (va_cwS 2 hC.2.2.2.2.1 gX1_combine_X1_zerosAsNow rfl rfl rfl (by decide +kernel) ⟨Nat.le_of_ble_eq_true rfl, Nat.le_of_ble_eq_true rfl⟩) rfl rfl (Nat.le_of_ble_eq_true rfl) dX1_combine_106 ⟨Nat.le_of_ble_eq_true rfl, Nat.le_of_ble_eq_true rfl⟩ (fun v w1 hp => ?_)
            obtain ⟨rfl, τz, rfl, kz, fz⟩ := hp
            refine gStk (st' := [.int (nI (cz (cmb z (Δ.2.2 (rI x)) (Δ.2.2 (rI y))) (Δ.2.1 (rI x))))]) (pc' := 109) rfl rfl ?_
            exact gRetIX hC hQ hr (Nat.le_of_ble_eq_true rfl) (Nat.le_of_ble_eq_true rfl) dX1_combine_109 (⟨kk3_0 (⟨ok, ok2⟩) oks oka, rfl, τz, rfl, (hR.same k1 (by decide)).row kz hl_ fz⟩)
        · skip
          have ec : ∀ i, (Δ.2.2 (rI x)) i + (Δ.2.2 (rI y)) i = (cmb z (Δ.2.2 (rI x)) (Δ.2.2 (rI y))) i := fun i => by unfold cmb; rw [if_pos hc8]
          refine gAloadN (pc := 55) hC dX1_combine_55 rfl 2 rfl ?_
          refine cGetRow (pc := 56) hC 5 (by decide) rfl hin1 hl29 dX1_combine_56 ?_
          refine gAload (pc := 59) hC dX1_combine_59 1 rfl ?_
          refine gAload (pc := 61) hC dX1_combine_61 0 rfl ?_
          refine gV (pc := 63) (rest := []) (ci := 0) (q0 := 2 + 2 * 8) hC (c_X0_becomeSums l D L σ 8 (rI x) (rI y) (Δ.2.1 (rI x)) (Δ.2.2 (rI x)) (Δ.2.2 (rI y)) (by decide) (by omega) (by omega) hF hG hN) rfl (wc_row (by decide)) (cwV 2 hC.2.2.2.2.1 gX1_combine_X0_becomeSums rfl rfl rfl (by decide +kernel) ⟨Nat.le_of_ble_eq_true rfl, Nat.le_of_ble_eq_true rfl⟩) rfl rfl (Nat.le_of_ble_eq_true rfl) dX1_combine_63 ⟨Nat.le_of_ble_eq_true rfl, Nat.le_of_ble_eq_true rfl⟩ (fun v w1 hp => ?_)
          obtain ⟨rfl, τ1, rfl, k1, f1⟩ := hp
          refine gStk (st' := []) (pc' := 66) rfl rfl ?_
          refine gGoto (pc := 66) hC (tgt := 100) dX1_combine_66 (by decide) ?_
          refine gAload (pc := 100) hC dX1_combine_100 1 rfl ?_
          refine gAloadN (pc := 102) hC dX1_combine_102 rfl 2 rfl ?_
          refine cGetRow (pc := 103) hC 5 (by decide) rfl hin1 hl29 dX1_combine_103 ?_
          refine gS (pc := 106) (rest := []) hC (c_X1_zerosAsNow l D L τ1 (rI x) 8 (Δ.2.1 (rI x)) (cmb z (Δ.2.2 (rI x)) (Δ.2.2 (rI y))) (by omega) (by decide) (f1.cong (fun j _ => ec j)) (by omega)) (va_cwS 2 hC.2.2.2.2.1 gX1_combine_X1_zerosAsNow rfl rfl rfl (by decide +kernel) ⟨Nat.le_of_ble_eq_true rfl, Nat.le_of_ble_eq_true rfl⟩) rfl rfl (Nat.le_of_ble_eq_true rfl) dX1_combine_106 ⟨Nat.le_of_ble_eq_true rfl, Nat.le_of_ble_eq_true rfl⟩ (fun v w1 hp => ?_)
          obtain ⟨rfl, τz, rfl, kz, fz⟩ := hp
          refine gStk (st' := [.int (nI (cz (cmb z (Δ.2.2 (rI x)) (Δ.2.2 (rI y))) (Δ.2.1 (rI x))))]) (pc' := 109) rfl rfl ?_
          exact gRetIX hC hQ hr (Nat.le_of_ble_eq_true rfl) (Nat.le_of_ble_eq_true rfl) dX1_combine_109 (⟨kk3_0 (⟨ok, ok2⟩) oks oka, rfl, τz, rfl, (hR.same k1 (by decide)).row kz hl_ fz⟩)
      · skip
        exact gThrow (pc := 32) (E := "java/lang/IllegalArgumentException") (text := "how is none of the signs") hC hEx hl9 (by decide +kernel) (by decide +kernel) (by decide +kernel) (by decide +kernel) (by decide +kernel) (by decide +kernel) (by decide +kernel) dX1_combine_32 dX1_combine_35 dX1_combine_36 dX1_combine_38 dX1_combine_41 (Nat.le_of_ble_eq_true rfl) (Nat.le_of_ble_eq_true rfl) (Nat.le_of_ble_eq_true rfl) (Nat.le_of_ble_eq_true rfl) (Nat.le_of_ble_eq_true rfl) (Nat.le_of_ble_eq_true rfl) hQ (⟨σ, rfl, hR, Or.inr (Or.inl (⟨rfl, kk3_2 ⟨ok, ok2⟩ (fun q => by rcases q with q | q | q; exact hc1 q; exact hc4 q; exact hc7 q)⟩))⟩)

abbrev rmX1_multiply : Room := { frames := 7, cells := 2, slots := 12, locals := 103 }
set_option maxRecDepth 100000 in
set_option maxHeartbeats 4000000 in
theorem c_X1_multiply (l : Launch) (D : va_G) (L : cLay) (σ : cSt) (Δ : dSt) (x : Int32) (y : Int32) (hR : cRel σ Δ)  : gX l yX1_multiply wsX1_multiply rmX1_multiply D (cTy L) (WC L σ) [.ref (lx L), .int x, .int y] 2 12 (fun r w => kk2 (okR x) (okNum y) = 0 ∧ r = some (.int (nI (cz (fun i => (Δ.2.2 (rI x)) i * nu y) (Δ.2.1 (rI x))))) ∧ ∃ σ', w = WC L σ' ∧ cRel σ' (dRow Δ (rI x) (Δ.2.1 (rI x)) (fun i => (Δ.2.2 (rI x)) i * nu y))) (fun E w => ∃ σ', w = WC L σ' ∧ cRel σ' Δ ∧ ((E = XI ∧ kk2 (okR x) (okNum y) = 1) ∨ (E = XA ∧ kk2 (okR x) (okNum y) = 2))) := by
  refine gX.of (cc := cX1_multiply) (maxL := 4) (ret := (some .int)) (own := RX1) (by decide) rfl rfl (Nat.le_of_ble_eq_true rfl) rfl ?_
  intro p e s m args below meth c A Q hC hr hQ hEx hl9
  have hin1 : ∀ w ∈ u_ws RX1 TX1 8, w ∈ wsX1_multiply := by decide +kernel
  have hl29 : Cond.fieldLink RX1 29 "Rootrows" "found" "LRootrows$Row;" ∈ wsX1_multiply := by decide +kernel
  refine gAloadN (pc := 0) hC dX1_multiply_0 rfl 0 rfl ?_
  refine gIloadN (pc := 1) hC dX1_multiply_1 rfl 1 rfl ?_
  refine gVX (pc := 2) (rest := []) (ci := 1) (q0 := 0) hC hEx hl9 (c_X1_rowAt l D L σ x) rfl rfl (cwV 1 hC.2.2.2.2.1 gX1_multiply_X1_rowAt rfl rfl rfl (by decide +kernel) ⟨Nat.le_of_ble_eq_true rfl, Nat.le_of_ble_eq_true rfl⟩) rfl rfl (Nat.le_of_ble_eq_true rfl) dX1_multiply_2 ⟨Nat.le_of_ble_eq_true rfl, Nat.le_of_ble_eq_true rfl⟩ hQ (Nat.le_of_ble_eq_true rfl) (Nat.le_of_ble_eq_true rfl) (fun E w1 h => ⟨_, h.2.1, hR, Or.inl (⟨h.1, kk2_1 h.2.2⟩)⟩) (fun v w1 hp => ?_)
  obtain ⟨ok, rfl, rfl⟩ := hp
  refine gStk (st' := [.ref (la L (rI x))]) (pc' := 5) rfl rfl ?_
  obtain ⟨hi, ei⟩ := ok.get
  obtain ⟨hl_, hF⟩ := hR.2.2 (rI x) hi
  have hN := hl_.N
  have hL := hN.le
  refine gAstoreN (pc := 5) hC (lv' := [(3, .ref (la L (rI x))), (0, .ref (lx L)), (1, .int x), (2, .int y)]) dX1_multiply_5 rfl (by decide) rfl ?_
  refine gIloadN (pc := 6) hC dX1_multiply_6 rfl 3 rfl ?_
  refine gSX (pc := 7) (rest := []) hC hEx hl9 (c_X1_needNumber l D (cTy L) _ y) (va_cwS 1 hC.2.2.2.2.1 gX1_multiply_X1_needNumber rfl rfl rfl (by decide +kernel) ⟨Nat.le_of_ble_eq_true rfl, Nat.le_of_ble_eq_true rfl⟩) rfl rfl (Nat.le_of_ble_eq_true rfl) dX1_multiply_7 ⟨Nat.le_of_ble_eq_true rfl, Nat.le_of_ble_eq_true rfl⟩ hQ (Nat.le_of_ble_eq_true rfl) (Nat.le_of_ble_eq_true rfl) (fun E w1 h => ⟨_, h.2.1, hR, Or.inr (⟨h.1, kk2_2 ok h.2.2⟩)⟩) (fun v w1 hp => ?_)
  obtain ⟨okn, rfl, rfl⟩ := hp
  refine gStk (st' := []) (pc' := 10) rfl rfl ?_
  have en := nu_val okn
  refine gAloadN (pc := 10) hC dX1_multiply_10 rfl 1 rfl ?_
  refine cGetRow (pc := 11) hC 5 (by decide) rfl hin1 hl29 dX1_multiply_11 ?_
  refine gAloadN (pc := 14) hC dX1_multiply_14 rfl 0 rfl ?_
  refine gIloadN (pc := 15) hC dX1_multiply_15 rfl 3 rfl ?_
  refine gV (pc := 16) (rest := []) (ci := 0) (q0 := 2 + 2 * 8) hC (c_X0_becomeScaled l D L σ 8 (rI x) (Δ.2.1 (rI x)) (Δ.2.2 (rI x)) y (nu y) (by decide) (by omega) hF hN en) rfl (wc_row (by decide)) (cwV 2 hC.2.2.2.2.1 gX1_multiply_X0_becomeScaled rfl rfl rfl (by decide +kernel) ⟨Nat.le_of_ble_eq_true rfl, Nat.le_of_ble_eq_true rfl⟩) rfl rfl (Nat.le_of_ble_eq_true rfl) dX1_multiply_16 ⟨Nat.le_of_ble_eq_true rfl, Nat.le_of_ble_eq_true rfl⟩ (fun v w1 hp => ?_)
  obtain ⟨rfl, τ1, rfl, k1, f1⟩ := hp
  refine gStk (st' := []) (pc' := 19) rfl rfl ?_
  refine gAloadN (pc := 19) hC dX1_multiply_19 rfl 0 rfl ?_
  refine gAloadN (pc := 20) hC dX1_multiply_20 rfl 1 rfl ?_
  refine cGetRow (pc := 21) hC 5 (by decide) rfl hin1 hl29 dX1_multiply_21 ?_
  refine gS (pc := 24) (rest := []) hC (c_X1_zerosAsNow l D L τ1 (rI x) 8 (Δ.2.1 (rI x)) (fun i => (Δ.2.2 (rI x)) i * nu y) (by omega) (by decide) f1 (by omega)) (va_cwS 2 hC.2.2.2.2.1 gX1_multiply_X1_zerosAsNow rfl rfl rfl (by decide +kernel) ⟨Nat.le_of_ble_eq_true rfl, Nat.le_of_ble_eq_true rfl⟩) rfl rfl (Nat.le_of_ble_eq_true rfl) dX1_multiply_24 ⟨Nat.le_of_ble_eq_true rfl, Nat.le_of_ble_eq_true rfl⟩ (fun v w1 hp => ?_)
  obtain ⟨rfl, τz, rfl, kz, fz⟩ := hp
  refine gStk (st' := [.int (nI (cz (fun i => (Δ.2.2 (rI x)) i * nu y) (Δ.2.1 (rI x))))]) (pc' := 27) rfl rfl ?_
  exact gRetIX hC hQ hr (Nat.le_of_ble_eq_true rfl) (Nat.le_of_ble_eq_true rfl) dX1_multiply_27 (⟨kk2_0 ok okn, rfl, τz, rfl, (hR.same k1 (by decide)).row kz hl_ fz⟩)

abbrev rmX1_repeat : Room := { frames := 7, cells := 2, slots := 12, locals := 104 }
set_option maxRecDepth 100000 in
set_option maxHeartbeats 4000000 in
theorem c_X1_repeat (l : Launch) (D : va_G) (L : cLay) (σ : cSt) (Δ : dSt) (x : Int32) (y : Int32) (hR : cRel σ Δ)  : gX l yX1_repeat wsX1_repeat rmX1_repeat D (cTy L) (WC L σ) [.ref (lx L), .int x, .int y] 2 12 (fun r w => kk2 (okR x) (okD y ∧ ¬ nI (Δ.2.1 (rI x)) < y) = 0 ∧ r = some (.int (nI (cd (Δ.2.2 (rI x)) (fun i => (Δ.2.2 (rI x)) (i % (rI y))) (Δ.2.1 (rI x))))) ∧ ∃ σ', w = WC L σ' ∧ cRel σ' (dRow Δ (rI x) (Δ.2.1 (rI x)) (fun i => (Δ.2.2 (rI x)) (i % (rI y))))) (fun E w => ∃ σ', w = WC L σ' ∧ cRel σ' Δ ∧ ((E = XI ∧ kk2 (okR x) (okD y ∧ ¬ nI (Δ.2.1 (rI x)) < y) = 1) ∨ (E = XA ∧ kk2 (okR x) (okD y ∧ ¬ nI (Δ.2.1 (rI x)) < y) = 2))) := by
  refine gX.of (cc := cX1_repeat) (maxL := 4) (ret := (some .int)) (own := RX1) (by decide) rfl rfl (Nat.le_of_ble_eq_true rfl) rfl ?_
  intro p e s m args below meth c A Q hC hr hQ hEx hl9
  have hin1 : ∀ w ∈ u_ws RX1 TX1 8, w ∈ wsX1_repeat := by decide +kernel
  have hl29 : Cond.fieldLink RX1 29 "Rootrows" "found" "LRootrows$Row;" ∈ wsX1_repeat := by decide +kernel
  refine gAloadN (pc := 0) hC dX1_repeat_0 rfl 0 rfl ?_
  refine gIloadN (pc := 1) hC dX1_repeat_1 rfl 1 rfl ?_
  refine gVX (pc := 2) (rest := []) (ci := 1) (q0 := 0) hC hEx hl9 (c_X1_rowAt l D L σ x) rfl rfl (cwV 1 hC.2.2.2.2.1 gX1_repeat_X1_rowAt rfl rfl rfl (by decide +kernel) ⟨Nat.le_of_ble_eq_true rfl, Nat.le_of_ble_eq_true rfl⟩) rfl rfl (Nat.le_of_ble_eq_true rfl) dX1_repeat_2 ⟨Nat.le_of_ble_eq_true rfl, Nat.le_of_ble_eq_true rfl⟩ hQ (Nat.le_of_ble_eq_true rfl) (Nat.le_of_ble_eq_true rfl) (fun E w1 h => ⟨_, h.2.1, hR, Or.inl (⟨h.1, kk2_1 h.2.2⟩)⟩) (fun v w1 hp => ?_)
  obtain ⟨ok, rfl, rfl⟩ := hp
  refine gStk (st' := [.ref (la L (rI x))]) (pc' := 5) rfl rfl ?_
  obtain ⟨hi, ei⟩ := ok.get
  obtain ⟨hl_, hF⟩ := hR.2.2 (rI x) hi
  have hN := hl_.N
  have hL := hN.le
  refine gAstoreN (pc := 5) hC (lv' := [(3, .ref (la L (rI x))), (0, .ref (lx L)), (1, .int x), (2, .int y)]) dX1_repeat_5 rfl (by decide) rfl ?_
  refine gAloadN (pc := 6) hC dX1_repeat_6 rfl 0 rfl ?_
  refine gIloadN (pc := 7) hC dX1_repeat_7 rfl 3 rfl ?_
  refine gSX (pc := 8) (rest := []) hC hEx hl9 (c_X1_needAfter l D L σ (rI x) (Δ.2.1 (rI x)) (Δ.2.2 (rI x)) y (by omega) hF) (va_cwS 2 hC.2.2.2.2.1 gX1_repeat_X1_needAfter rfl rfl rfl (by decide +kernel) ⟨Nat.le_of_ble_eq_true rfl, Nat.le_of_ble_eq_true rfl⟩) rfl rfl (Nat.le_of_ble_eq_true rfl) dX1_repeat_8 ⟨Nat.le_of_ble_eq_true rfl, Nat.le_of_ble_eq_true rfl⟩ hQ (Nat.le_of_ble_eq_true rfl) (Nat.le_of_ble_eq_true rfl) (fun E w1 h => ⟨_, h.2.1, hR, Or.inr (⟨h.1, kk2_2 ok h.2.2⟩)⟩) (fun v w1 hp => ?_)
  obtain ⟨oka, rfl, rfl⟩ := hp
  refine gStk (st' := []) (pc' := 11) rfl rfl ?_
  obtain ⟨hd, ed⟩ := oka.1.get
  refine gAloadN (pc := 11) hC dX1_repeat_11 rfl 1 rfl ?_
  refine cGetRow (pc := 12) hC 5 (by decide) rfl hin1 hl29 dX1_repeat_12 ?_
  refine gAloadN (pc := 15) hC dX1_repeat_15 rfl 0 rfl ?_
  refine gIloadN (pc := 16) hC dX1_repeat_16 rfl 3 rfl ?_
  have hx2 : Value.int y = Value.int (nI (rI y)) := congrArg Value.int ed
  refine gStk (st' := [.int (nI (rI y)), .ref (la L (rI x)), .ref (la L 8)]) (pc' := 17) (by rw [← hx2]) rfl ?_
  refine gV (pc := 17) (rest := []) (ci := 0) (q0 := 2 + 2 * 8) hC (c_X0_becomeRepeated l D L σ 8 (rI x) (Δ.2.1 (rI x)) (rI y) (Δ.2.2 (rI x)) (by decide) (by omega) (by omega) hF hN hd) rfl (wc_row (by decide)) (cwV 2 hC.2.2.2.2.1 gX1_repeat_X0_becomeRepeated rfl rfl rfl (by decide +kernel) ⟨Nat.le_of_ble_eq_true rfl, Nat.le_of_ble_eq_true rfl⟩) rfl rfl (Nat.le_of_ble_eq_true rfl) dX1_repeat_17 ⟨Nat.le_of_ble_eq_true rfl, Nat.le_of_ble_eq_true rfl⟩ (fun v w1 hp => ?_)
  obtain ⟨rfl, τ1, rfl, k1, f1⟩ := hp
  refine gStk (st' := []) (pc' := 20) rfl rfl ?_
  refine gAloadN (pc := 20) hC dX1_repeat_20 rfl 0 rfl ?_
  refine gAloadN (pc := 21) hC dX1_repeat_21 rfl 1 rfl ?_
  refine cGetRow (pc := 22) hC 5 (by decide) rfl hin1 hl29 dX1_repeat_22 ?_
  refine gS (pc := 25) (rest := []) hC (c_X1_changed l D L τ1 (rI x) 8 (Δ.2.1 (rI x)) (Δ.2.2 (rI x)) (fun i => (Δ.2.2 (rI x)) (i % (rI y))) (by omega) (by decide) (hF.kept k1 (by omega)) f1 hL) (va_cwS 2 hC.2.2.2.2.1 gX1_repeat_X1_changed rfl rfl rfl (by decide +kernel) ⟨Nat.le_of_ble_eq_true rfl, Nat.le_of_ble_eq_true rfl⟩) rfl rfl (Nat.le_of_ble_eq_true rfl) dX1_repeat_25 ⟨Nat.le_of_ble_eq_true rfl, Nat.le_of_ble_eq_true rfl⟩ (fun v w1 hp => ?_)
  obtain ⟨rfl, τ2, rfl, k2, f2⟩ := hp
  refine gStk (st' := [.int (nI (cd (Δ.2.2 (rI x)) (fun i => (Δ.2.2 (rI x)) (i % (rI y))) (Δ.2.1 (rI x))))]) (pc' := 28) rfl rfl ?_
  exact gRetIX hC hQ hr (Nat.le_of_ble_eq_true rfl) (Nat.le_of_ble_eq_true rfl) dX1_repeat_28 (⟨kk2_0 ok oka, rfl, τ2, rfl, (hR.same k1 (by decide)).row k2 hl_ f2⟩)

abbrev rmX1_own : Room := { frames := 7, cells := 1, slots := 6, locals := 115 }
set_option maxRecDepth 100000 in
set_option maxHeartbeats 4000000 in
theorem c_X1_own (l : Launch) (D : va_G) (L : cLay) (σ : cSt) (Δ : dSt) (x : Int32) (hR : cRel σ Δ)  : gX l yX1_own wsX1_own rmX1_own D (cTy L) (WC L σ) [.ref (lx L), .int x] 1 6 (fun r w => kk1 (okR x) = 0 ∧ r = some (.int (nI (cz (ow (Δ.2.1 (rI x)) (un Δ.1 (Δ.2.1 (rI x))) (Δ.2.2 (rI x))) (Δ.2.1 (rI x))))) ∧ ∃ σ', w = WC L σ' ∧ cRel σ' (dRow Δ (rI x) (Δ.2.1 (rI x)) (ow (Δ.2.1 (rI x)) (un Δ.1 (Δ.2.1 (rI x))) (Δ.2.2 (rI x))))) (fun E w => ∃ σ', w = WC L σ' ∧ cRel σ' Δ ∧ ((E = XI ∧ kk1 (okR x) = 1))) := by
  refine gX.of (cc := cX1_own) (maxL := 3) (ret := (some .int)) (own := RX1) (by decide) rfl rfl (Nat.le_of_ble_eq_true rfl) rfl ?_
  intro p e s m args below meth c A Q hC hr hQ hEx hl9
  have hin1 : ∀ w ∈ u_ws RX1 TX1 8, w ∈ wsX1_own := by decide +kernel
  have hl29 : Cond.fieldLink RX1 29 "Rootrows" "found" "LRootrows$Row;" ∈ wsX1_own := by decide +kernel
  refine gAloadN (pc := 0) hC dX1_own_0 rfl 0 rfl ?_
  refine gIloadN (pc := 1) hC dX1_own_1 rfl 1 rfl ?_
  refine gVX (pc := 2) (rest := []) (ci := 1) (q0 := 0) hC hEx hl9 (c_X1_rowAt l D L σ x) rfl rfl (cwV 1 hC.2.2.2.2.1 gX1_own_X1_rowAt rfl rfl rfl (by decide +kernel) ⟨Nat.le_of_ble_eq_true rfl, Nat.le_of_ble_eq_true rfl⟩) rfl rfl (Nat.le_of_ble_eq_true rfl) dX1_own_2 ⟨Nat.le_of_ble_eq_true rfl, Nat.le_of_ble_eq_true rfl⟩ hQ (Nat.le_of_ble_eq_true rfl) (Nat.le_of_ble_eq_true rfl) (fun E w1 h => ⟨_, h.2.1, hR, ⟨h.1, kk1_1 h.2.2⟩⟩) (fun v w1 hp => ?_)
  obtain ⟨ok, rfl, rfl⟩ := hp
  refine gStk (st' := [.ref (la L (rI x))]) (pc' := 5) rfl rfl ?_
  obtain ⟨hi, ei⟩ := ok.get
  obtain ⟨hl_, hF⟩ := hR.2.2 (rI x) hi
  have hN := hl_.N
  have hL := hN.le
  refine gAstoreN (pc := 5) hC (lv' := [(2, .ref (la L (rI x))), (0, .ref (lx L)), (1, .int x)]) dX1_own_5 rfl (by decide) rfl ?_
  refine gAloadN (pc := 6) hC dX1_own_6 rfl 1 rfl ?_
  refine gAloadN (pc := 7) hC dX1_own_7 rfl 0 rfl ?_
  refine gAloadN (pc := 8) hC dX1_own_8 rfl 1 rfl ?_
  refine cGetRow (pc := 9) hC 5 (by decide) rfl hin1 hl29 dX1_own_9 ?_
  refine gV (pc := 12) (rest := []) (ci := 1) (q0 := 0) hC (c_X1_ownRow l D L σ (rI x) 8 (Δ.2.1 (rI x)) Δ.1 (Δ.2.2 (rI x)) (by decide) (by omega) (by omega) hF hl_ hR.1 (by omega) (by decide)) rfl rfl (cwV 2 hC.2.2.2.2.1 gX1_own_X1_ownRow rfl rfl rfl (by decide +kernel) ⟨Nat.le_of_ble_eq_true rfl, Nat.le_of_ble_eq_true rfl⟩) rfl rfl (Nat.le_of_ble_eq_true rfl) dX1_own_12 ⟨Nat.le_of_ble_eq_true rfl, Nat.le_of_ble_eq_true rfl⟩ (fun v w1 hp => ?_)
  obtain ⟨rfl, τ1, rfl, k1, f1⟩ := hp
  refine gStk (st' := []) (pc' := 15) rfl rfl ?_
  refine gAloadN (pc := 15) hC dX1_own_15 rfl 0 rfl ?_
  refine gAloadN (pc := 16) hC dX1_own_16 rfl 1 rfl ?_
  refine cGetRow (pc := 17) hC 5 (by decide) rfl hin1 hl29 dX1_own_17 ?_
  refine gS (pc := 20) (rest := []) hC (c_X1_zerosAsNow l D L τ1 (rI x) 8 (Δ.2.1 (rI x)) (ow (Δ.2.1 (rI x)) (un Δ.1 (Δ.2.1 (rI x))) (Δ.2.2 (rI x))) (by omega) (by decide) f1 (by omega)) (va_cwS 2 hC.2.2.2.2.1 gX1_own_X1_zerosAsNow rfl rfl rfl (by decide +kernel) ⟨Nat.le_of_ble_eq_true rfl, Nat.le_of_ble_eq_true rfl⟩) rfl rfl (Nat.le_of_ble_eq_true rfl) dX1_own_20 ⟨Nat.le_of_ble_eq_true rfl, Nat.le_of_ble_eq_true rfl⟩ (fun v w1 hp => ?_)
  obtain ⟨rfl, τz, rfl, kz, fz⟩ := hp
  refine gStk (st' := [.int (nI (cz (ow (Δ.2.1 (rI x)) (un Δ.1 (Δ.2.1 (rI x))) (Δ.2.2 (rI x))) (Δ.2.1 (rI x))))]) (pc' := 23) rfl rfl ?_
  exact gRetIX hC hQ hr (Nat.le_of_ble_eq_true rfl) (Nat.le_of_ble_eq_true rfl) dX1_own_23 (⟨kk1_0 ok, rfl, τz, rfl, (hR.keep ⟨k1.1, fun q hq => k1.2 q (by omega) (by omega)⟩).row kz hl_ fz⟩)

abbrev rmX1_period : Room := { frames := 7, cells := 1, slots := 6, locals := 103 }
set_option maxRecDepth 100000 in
set_option maxHeartbeats 4000000 in
theorem c_X1_period (l : Launch) (D : va_G) (L : cLay) (σ : cSt) (Δ : dSt) (x : Int32) (hR : cRel σ Δ)  : gX l yX1_period wsX1_period rmX1_period D (cTy L) (WC L σ) [.ref (lx L), .int x] 1 6 (fun r w => kk1 (okR x) = 0 ∧ (∃ v : Int32, r = some (.int v) ∧ ∃ d, v = nI d ∧ isPd (Δ.2.1 (rI x)) (Δ.2.2 (rI x)) d) ∧ ∃ σ', w = WC L σ' ∧ cRel σ' Δ) (fun E w => ∃ σ', w = WC L σ' ∧ cRel σ' Δ ∧ ((E = XI ∧ kk1 (okR x) = 1))) := by
  refine gX.of (cc := cX1_period) (maxL := 4) (ret := (some .int)) (own := RX1) (by decide) rfl rfl (Nat.le_of_ble_eq_true rfl) rfl ?_
  intro p e s m args below meth c A Q hC hr hQ hEx hl9
  have hin0 : ∀ w ∈ u_ws RX0 TX0 2, w ∈ wsX1_period := by decide +kernel
  have hl47 : Cond.fieldLink RX1 47 "Rootrows$Row" "size" "I" ∈ wsX1_period := by decide +kernel
  refine gAloadN (pc := 0) hC dX1_period_0 rfl 0 rfl ?_
  refine gIloadN (pc := 1) hC dX1_period_1 rfl 1 rfl ?_
  refine gVX (pc := 2) (rest := []) (ci := 1) (q0 := 0) hC hEx hl9 (c_X1_rowAt l D L σ x) rfl rfl (cwV 1 hC.2.2.2.2.1 gX1_period_X1_rowAt rfl rfl rfl (by decide +kernel) ⟨Nat.le_of_ble_eq_true rfl, Nat.le_of_ble_eq_true rfl⟩) rfl rfl (Nat.le_of_ble_eq_true rfl) dX1_period_2 ⟨Nat.le_of_ble_eq_true rfl, Nat.le_of_ble_eq_true rfl⟩ hQ (Nat.le_of_ble_eq_true rfl) (Nat.le_of_ble_eq_true rfl) (fun E w1 h => ⟨_, h.2.1, hR, ⟨h.1, kk1_1 h.2.2⟩⟩) (fun v w1 hp => ?_)
  obtain ⟨ok, rfl, rfl⟩ := hp
  refine gStk (st' := [.ref (la L (rI x))]) (pc' := 5) rfl rfl ?_
  obtain ⟨hi, ei⟩ := ok.get
  obtain ⟨hl_, hF⟩ := hR.2.2 (rI x) hi
  have hN := hl_.N
  have hL := hN.le
  obtain ⟨μ, hm, eμ⟩ := hl_.pw
  refine gAstoreN (pc := 5) hC (lv' := [(2, .ref (la L (rI x))), (0, .ref (lx L)), (1, .int x)]) dX1_period_5 rfl (by decide) rfl ?_
  refine gIconst (pc := 6) hC (v := (nI 1)) dX1_period_6 (by decide +kernel) ?_
  refine gIstoreN (pc := 7) hC (lv' := [(3, .int (nI 1)), (2, .ref (la L (rI x))), (0, .ref (lx L)), (1, .int x)]) dX1_period_7 rfl (by decide) rfl ?_
  refine gLoc (lv' := [(3, .int (nI (2 ^ 0))), (0, .ref (lx L)), (2, .ref (la L (rI x)))]) [0, 2, 1] rfl ?_
  refine loopUp (S := Unit) (fun i ζ => gG p l e rmX1_period s m args below meth c D A 4 1 6 Q (WC L σ) 8 [(3, .int (nI (2 ^ i))), (0, .ref (lx L)), (2, .ref (la L (rI x)))] []) (fun i ζ => ∀ a, a < i → ¬ agn (Δ.2.1 (rI x)) (Δ.2.2 (rI x)) (2 ^ a)) μ ?_ ?_ 0 (()) (by omega) (fun a ha => absurd ha (Nat.not_lt_zero a))
  · intro ζ hI
    revert hI; generalize ζ = uu; intro hI
    refine gIloadN (pc := 8) hC dX1_period_8 rfl 0 rfl ?_
    refine gAloadN (pc := 9) hC dX1_period_9 rfl 2 rfl ?_
    refine cGetSize (pc := 10) hC (K := (rI x)) (v := (nI (Δ.2.1 (rI x)))) (by omega) hin0 hl47 (hF.1) dX1_period_10 ?_
    refine gIcmp_ge (pc := 13) hC (tgt := 33) dX1_period_13 (by decide) (fun hc1 => ?_) (fun hc1 => absurd (by rw [eμ]; exact nI_le (Nat.le_refl _) (by omega)) hc1)
    refine gAloadN (pc := 33) hC dX1_period_33 rfl 2 rfl ?_
    refine cGetSize (pc := 34) hC (K := (rI x)) (v := (nI (Δ.2.1 (rI x)))) (by omega) hin0 hl47 (hF.1) dX1_period_34 ?_
    exact gRetIX hC hQ hr (Nat.le_of_ble_eq_true rfl) (Nat.le_of_ble_eq_true rfl) dX1_period_37 (⟨kk1_0 ok, ⟨_, rfl, (Δ.2.1 (rI x)), rfl, Or.inr ⟨rfl, fun a ha => hI a (by rw [eμ] at ha; exact (Nat.pow_lt_pow_iff_right (by decide)).mp ha)⟩⟩, _, rfl, hR⟩)
  · intro i ζ hi hI ih
    revert hI; generalize ζ = uu; intro hI
    have h2 : 2 ^ i < (Δ.2.1 (rI x)) := by rw [eμ]; exact Nat.pow_lt_pow_right (by decide) hi
    refine gIloadN (pc := 8) hC dX1_period_8 rfl 0 rfl ?_
    refine gAloadN (pc := 9) hC dX1_period_9 rfl 2 rfl ?_
    refine cGetSize (pc := 10) hC (K := (rI x)) (v := (nI (Δ.2.1 (rI x)))) (by omega) hin0 hl47 (hF.1) dX1_period_10 ?_
    refine gIcmp_ge (pc := 13) hC (tgt := 33) dX1_period_13 (by decide) (fun hc2 => absurd hc2 (nI_ge h2 (by omega))) (fun hc2 => ?_)
    refine gAloadN (pc := 16) hC dX1_period_16 rfl 2 rfl ?_
    refine gIloadN (pc := 17) hC dX1_period_17 rfl 0 rfl ?_
    refine gV (pc := 18) (rest := []) (ci := 0) (q0 := 2 + 2 * (rI x)) hC (c_X0_comesAgain l D L σ (rI x) (Δ.2.1 (rI x)) (2 ^ i) (Δ.2.2 (rI x)) (by omega) hF hN (by omega)) rfl (wc_row (by omega)) (cwV 1 hC.2.2.2.2.1 gX1_period_X0_comesAgain rfl rfl rfl (by decide +kernel) ⟨Nat.le_of_ble_eq_true rfl, Nat.le_of_ble_eq_true rfl⟩) rfl rfl (Nat.le_of_ble_eq_true rfl) dX1_period_18 ⟨Nat.le_of_ble_eq_true rfl, Nat.le_of_ble_eq_true rfl⟩ (fun v w1 hp => ?_)
    obtain ⟨rfl, b1, rfl, hb1⟩ := hp
    refine gStk (st' := [.int b1]) (pc' := 21) rfl rfl ?_
    refine gIf_eq (pc := 21) hC (tgt := 26) dX1_period_21 (by decide) (fun hc3 => ?_) (fun hc3 => ?_)
    · skip
      have hno : ¬ agn (Δ.2.1 (rI x)) (Δ.2.2 (rI x)) (2 ^ i) := by
        rcases hb1 with a | a
        · rw [a.1] at hc3; exact absurd hc3 (by decide)
        · exact a.2
      refine gIloadN (pc := 26) hC dX1_period_26 rfl 0 rfl ?_
      refine gIconst (pc := 27) hC (v := (nI 2)) dX1_period_27 (by decide +kernel) ?_
      refine gImul (pc := 28) hC (v := (nI (2 ^ (i + 1)))) dX1_period_28 (pk_mul _ _) ?_
      refine gIstoreN (pc := 29) hC (lv' := [(3, .int (nI (2 ^ (i + 1)))), (0, .ref (lx L)), (2, .ref (la L (rI x)))]) dX1_period_29 rfl (by decide) rfl ?_
      refine gGoto (pc := 30) hC (tgt := 8) dX1_period_30 (by decide) ?_
      refine gLoc (lv' := [(3, .int (nI (2 ^ (i + 1)))), (0, .ref (lx L)), (2, .ref (la L (rI x)))]) [0, 1, 2] rfl ?_
      exact ih (()) (lt_s hI hno)
    · skip
      have hyes : agn (Δ.2.1 (rI x)) (Δ.2.2 (rI x)) (2 ^ i) := by
        rcases hb1 with a | a
        · exact a.2
        · rw [a.1] at hc3; exact absurd (by decide) hc3
      refine gIloadN (pc := 24) hC dX1_period_24 rfl 0 rfl ?_
      exact gRetIX hC hQ hr (Nat.le_of_ble_eq_true rfl) (Nat.le_of_ble_eq_true rfl) dX1_period_25 (⟨kk1_0 ok, ⟨_, rfl, 2 ^ i, rfl, Or.inl ⟨i, rfl, h2, hyes, hI⟩⟩, _, rfl, hR⟩)

abbrev rmX1_factor : Room := { frames := 7, cells := 1, slots := 6, locals := 103 }
set_option maxRecDepth 100000 in
set_option maxHeartbeats 4000000 in
theorem c_X1_factor (l : Launch) (D : va_G) (L : cLay) (σ : cSt) (Δ : dSt) (x : Int32) (hR : cRel σ Δ)  : gX l yX1_factor wsX1_factor rmX1_factor D (cTy L) (WC L σ) [.ref (lx L), .int x] 1 6 (fun r w => kk1 (okR x) = 0 ∧ (∃ v : Int32, r = some (.int v) ∧ (((∀ j, j < (Δ.2.1 (rI x)) → (Δ.2.2 (rI x)) j * (off (Δ.2.2 (rI x)) (ps (Δ.2.1 (rI x)) (un Δ.1 (Δ.2.1 (rI x))) 1 (Δ.2.2 (rI x))) (Δ.2.1 (rI x)) 0) = (ps (Δ.2.1 (rI x)) (un Δ.1 (Δ.2.1 (rI x))) 1 (Δ.2.2 (rI x))) j) ∧ v = nI (off (Δ.2.2 (rI x)) (ps (Δ.2.1 (rI x)) (un Δ.1 (Δ.2.1 (rI x))) 1 (Δ.2.2 (rI x))) (Δ.2.1 (rI x)) 0).val) ∨ ((¬ ∀ j, j < (Δ.2.1 (rI x)) → (Δ.2.2 (rI x)) j * (off (Δ.2.2 (rI x)) (ps (Δ.2.1 (rI x)) (un Δ.1 (Δ.2.1 (rI x))) 1 (Δ.2.2 (rI x))) (Δ.2.1 (rI x)) 0) = (ps (Δ.2.1 (rI x)) (un Δ.1 (Δ.2.1 (rI x))) 1 (Δ.2.2 (rI x))) j) ∧ v = -1))) ∧ ∃ σ', w = WC L σ' ∧ cRel σ' Δ) (fun E w => ∃ σ', w = WC L σ' ∧ cRel σ' Δ ∧ ((E = XI ∧ kk1 (okR x) = 1))) := by
  refine gX.of (cc := cX1_factor) (maxL := 4) (ret := (some .int)) (own := RX1) (by decide) rfl rfl (Nat.le_of_ble_eq_true rfl) rfl ?_
  intro p e s m args below meth c A Q hC hr hQ hEx hl9
  have hin1 : ∀ w ∈ u_ws RX1 TX1 8, w ∈ wsX1_factor := by decide +kernel
  have hl26 : Cond.fieldLink RX1 26 "Rootrows" "wanted" "LRootrows$Row;" ∈ wsX1_factor := by decide +kernel
  have hl29 : Cond.fieldLink RX1 29 "Rootrows" "found" "LRootrows$Row;" ∈ wsX1_factor := by decide +kernel
  refine gAloadN (pc := 0) hC dX1_factor_0 rfl 0 rfl ?_
  refine gIloadN (pc := 1) hC dX1_factor_1 rfl 1 rfl ?_
  refine gVX (pc := 2) (rest := []) (ci := 1) (q0 := 0) hC hEx hl9 (c_X1_rowAt l D L σ x) rfl rfl (cwV 1 hC.2.2.2.2.1 gX1_factor_X1_rowAt rfl rfl rfl (by decide +kernel) ⟨Nat.le_of_ble_eq_true rfl, Nat.le_of_ble_eq_true rfl⟩) rfl rfl (Nat.le_of_ble_eq_true rfl) dX1_factor_2 ⟨Nat.le_of_ble_eq_true rfl, Nat.le_of_ble_eq_true rfl⟩ hQ (Nat.le_of_ble_eq_true rfl) (Nat.le_of_ble_eq_true rfl) (fun E w1 h => ⟨_, h.2.1, hR, ⟨h.1, kk1_1 h.2.2⟩⟩) (fun v w1 hp => ?_)
  obtain ⟨ok, rfl, rfl⟩ := hp
  refine gStk (st' := [.ref (la L (rI x))]) (pc' := 5) rfl rfl ?_
  obtain ⟨hi, ei⟩ := ok.get
  obtain ⟨hl_, hF⟩ := hR.2.2 (rI x) hi
  have hN := hl_.N
  have hL := hN.le
  refine gAstoreN (pc := 5) hC (lv' := [(2, .ref (la L (rI x))), (0, .ref (lx L)), (1, .int x)]) dX1_factor_5 rfl (by decide) rfl ?_
  refine gAloadN (pc := 6) hC dX1_factor_6 rfl 1 rfl ?_
  refine gAloadN (pc := 7) hC dX1_factor_7 rfl 0 rfl ?_
  refine gAloadN (pc := 8) hC dX1_factor_8 rfl 1 rfl ?_
  refine cGetRow (pc := 9) hC 4 (by decide) rfl hin1 hl26 dX1_factor_9 ?_
  refine gV (pc := 12) (rest := []) (ci := 1) (q0 := 0) hC (c_X1_plainValues l D L σ (rI x) 7 (Δ.2.1 (rI x)) Δ.1 (Δ.2.2 (rI x)) (by decide) (by omega) (by omega) hF hN hR.1) rfl rfl (cwV 2 hC.2.2.2.2.1 gX1_factor_X1_plainValues rfl rfl rfl (by decide +kernel) ⟨Nat.le_of_ble_eq_true rfl, Nat.le_of_ble_eq_true rfl⟩) rfl rfl (Nat.le_of_ble_eq_true rfl) dX1_factor_12 ⟨Nat.le_of_ble_eq_true rfl, Nat.le_of_ble_eq_true rfl⟩ (fun v w1 hp => ?_)
  obtain ⟨rfl, τ1, rfl, k1, f1⟩ := hp
  refine gStk (st' := []) (pc' := 15) rfl rfl ?_
  refine gAloadN (pc := 15) hC dX1_factor_15 rfl 0 rfl ?_
  refine gAloadN (pc := 16) hC dX1_factor_16 rfl 1 rfl ?_
  refine cGetRow (pc := 17) hC 4 (by decide) rfl hin1 hl26 dX1_factor_17 ?_
  have hF1 := hF.kept k1 (show rI x ≠ 7 by omega)
  refine gS (pc := 20) (rest := []) hC (c_X1_onlyFactor l D L τ1 (rI x) 7 (Δ.2.1 (rI x)) (Δ.2.2 (rI x)) (ps (Δ.2.1 (rI x)) (un Δ.1 (Δ.2.1 (rI x))) 1 (Δ.2.2 (rI x))) (by omega) (by decide) hF1 f1 hL) (va_cwS 2 hC.2.2.2.2.1 gX1_factor_X1_onlyFactor rfl rfl rfl (by decide +kernel) ⟨Nat.le_of_ble_eq_true rfl, Nat.le_of_ble_eq_true rfl⟩) rfl rfl (Nat.le_of_ble_eq_true rfl) dX1_factor_20 ⟨Nat.le_of_ble_eq_true rfl, Nat.le_of_ble_eq_true rfl⟩ (fun v w1 hp => ?_)
  obtain ⟨rfl, rfl⟩ := hp
  refine gStk (st' := [.int (nI (off (Δ.2.2 (rI x)) (ps (Δ.2.1 (rI x)) (un Δ.1 (Δ.2.1 (rI x))) 1 (Δ.2.2 (rI x))) (Δ.2.1 (rI x)) 0).val)]) (pc' := 23) rfl rfl ?_
  refine gIstoreN (pc := 23) hC (lv' := [(3, .int (nI (off (Δ.2.2 (rI x)) (ps (Δ.2.1 (rI x)) (un Δ.1 (Δ.2.1 (rI x))) 1 (Δ.2.2 (rI x))) (Δ.2.1 (rI x)) 0).val)), (2, .ref (la L (rI x))), (0, .ref (lx L)), (1, .int x)]) dX1_factor_23 rfl (by decide) rfl ?_
  refine gAloadN (pc := 24) hC dX1_factor_24 rfl 2 rfl ?_
  refine cGetRow (pc := 25) hC 5 (by decide) rfl hin1 hl29 dX1_factor_25 ?_
  refine gAloadN (pc := 28) hC dX1_factor_28 rfl 1 rfl ?_
  refine gIloadN (pc := 29) hC dX1_factor_29 rfl 0 rfl ?_
  refine gV (pc := 30) (rest := []) (ci := 0) (q0 := 2 + 2 * 8) hC (c_X0_becomeScaled l D L τ1 8 (rI x) (Δ.2.1 (rI x)) (Δ.2.2 (rI x)) _ (off (Δ.2.2 (rI x)) (ps (Δ.2.1 (rI x)) (un Δ.1 (Δ.2.1 (rI x))) 1 (Δ.2.2 (rI x))) (Δ.2.1 (rI x)) 0) (by decide) (by omega) hF1 hN rfl) rfl (wc_row (by decide)) (cwV 2 hC.2.2.2.2.1 gX1_factor_X0_becomeScaled rfl rfl rfl (by decide +kernel) ⟨Nat.le_of_ble_eq_true rfl, Nat.le_of_ble_eq_true rfl⟩) rfl rfl (Nat.le_of_ble_eq_true rfl) dX1_factor_30 ⟨Nat.le_of_ble_eq_true rfl, Nat.le_of_ble_eq_true rfl⟩ (fun v w1 hp => ?_)
  obtain ⟨rfl, τ2, rfl, k2, f2⟩ := hp
  refine gStk (st' := []) (pc' := 33) rfl rfl ?_
  refine gAloadN (pc := 33) hC dX1_factor_33 rfl 2 rfl ?_
  refine cGetRow (pc := 34) hC 5 (by decide) rfl hin1 hl29 dX1_factor_34 ?_
  refine gAloadN (pc := 37) hC dX1_factor_37 rfl 2 rfl ?_
  refine cGetRow (pc := 38) hC 4 (by decide) rfl hin1 hl26 dX1_factor_38 ?_
  have f3 := f1.kept k2 (by decide)
  refine gV (pc := 41) (rest := []) (ci := 0) (q0 := 2 + 2 * 8) hC (c_X0_isLike l D L τ2 8 7 (Δ.2.1 (rI x)) (by decide) (by decide) f2.1 hL) rfl (wc_row (by decide)) (cwV 1 hC.2.2.2.2.1 gX1_factor_X0_isLike rfl rfl rfl (by decide +kernel) ⟨Nat.le_of_ble_eq_true rfl, Nat.le_of_ble_eq_true rfl⟩) rfl rfl (Nat.le_of_ble_eq_true rfl) dX1_factor_41 ⟨Nat.le_of_ble_eq_true rfl, Nat.le_of_ble_eq_true rfl⟩ (fun v w1 hp => ?_)
  obtain ⟨rfl, b1, rfl, hb1⟩ := hp
  refine gStk (st' := [.int b1]) (pc' := 44) rfl rfl ?_
  have hlk : (τ2.2.1 8 = τ2.2.1 7 ∧ ∀ j, j < (Δ.2.1 (rI x)) → τ2.2.2 8 j = τ2.2.2 7 j) ↔ ∀ j, j < (Δ.2.1 (rI x)) → (Δ.2.2 (rI x)) j * (off (Δ.2.2 (rI x)) (ps (Δ.2.1 (rI x)) (un Δ.1 (Δ.2.1 (rI x))) 1 (Δ.2.2 (rI x))) (Δ.2.1 (rI x)) 0) = (ps (Δ.2.1 (rI x)) (un Δ.1 (Δ.2.1 (rI x))) 1 (Δ.2.2 (rI x))) j := by
    constructor
    · rintro ⟨a, c⟩ j hj
      have := c j hj
      rw [f2.2 j hj, f3.2 j hj] at this
      exact val_ne.mp this
    · intro h
      exact like_of f2 f3 h
  refine gIf_eq (pc := 44) hC (tgt := 51) dX1_factor_44 (by decide) (fun hc1 => ?_) (fun hc1 => ?_)
  · skip
    refine gIconst (pc := 51) hC (v := (-1)) dX1_factor_51 (by decide +kernel) ?_
    exact gRetIX hC hQ hr (Nat.le_of_ble_eq_true rfl) (Nat.le_of_ble_eq_true rfl) dX1_factor_52 (⟨kk1_0 ok, ⟨_, rfl, Or.inr ⟨by rcases hb1 with a | a; (rw [a.1] at hc1; exact absurd hc1 (by decide)); exact fun q => a.2 (hlk.mpr q), rfl⟩⟩, _, rfl, (hR.same k1 (by decide)).same k2 (by decide)⟩)
  · skip
    refine gIloadN (pc := 47) hC dX1_factor_47 rfl 0 rfl ?_
    refine gGoto (pc := 48) hC (tgt := 52) dX1_factor_48 (by decide) ?_
    exact gRetIX hC hQ hr (Nat.le_of_ble_eq_true rfl) (Nat.le_of_ble_eq_true rfl) dX1_factor_52 (⟨kk1_0 ok, ⟨_, rfl, Or.inl ⟨by rcases hb1 with a | a; exact hlk.mp a.2; (rw [a.1] at hc1; exact absurd (by decide) hc1), rfl⟩⟩, _, rfl, (hR.same k1 (by decide)).same k2 (by decide)⟩)

abbrev rmX1_sum : Room := { frames := 7, cells := 3, slots := 18, locals := 103 }
set_option maxRecDepth 100000 in
set_option maxHeartbeats 4000000 in
theorem c_X1_sum (l : Launch) (D : va_G) (L : cLay) (σ : cSt) (Δ : dSt) (x : Int32) (y : Int32) (z : Int32) (hR : cRel σ Δ)  : gX l yX1_sum wsX1_sum rmX1_sum D (cTy L) (WC L σ) [.ref (lx L), .int x, .int y, .int z] 3 18 (fun r w => kk2 (okR x ∧ okR y) ((Δ.2.1 (rI x)) = (Δ.2.1 (rI y))) = 0 ∧ r = some (.int (nI (sg (Δ.2.1 (rI x)) (fun i => (Δ.2.2 (rI x)) i * (Δ.2.2 (rI y)) (ix (Δ.2.1 (rI x)) (if z = 0 then (i : Int) else -(i : Int))))).val)) ∧ ∃ σ', w = WC L σ' ∧ cRel σ' Δ) (fun E w => ∃ σ', w = WC L σ' ∧ cRel σ' Δ ∧ ((E = XI ∧ kk2 (okR x ∧ okR y) ((Δ.2.1 (rI x)) = (Δ.2.1 (rI y))) = 1) ∨ (E = XS ∧ kk2 (okR x ∧ okR y) ((Δ.2.1 (rI x)) = (Δ.2.1 (rI y))) = 2))) := by
  refine gX.of (cc := cX1_sum) (maxL := 6) (ret := (some .int)) (own := RX1) (by decide) rfl rfl (Nat.le_of_ble_eq_true rfl) rfl ?_
  intro p e s m args below meth c A Q hC hr hQ hEx hl9
  refine gAloadN (pc := 0) hC dX1_sum_0 rfl 0 rfl ?_
  refine gIloadN (pc := 1) hC dX1_sum_1 rfl 1 rfl ?_
  refine gVX (pc := 2) (rest := []) (ci := 1) (q0 := 0) hC hEx hl9 (c_X1_rowAt l D L σ x) rfl rfl (cwV 1 hC.2.2.2.2.1 gX1_sum_X1_rowAt rfl rfl rfl (by decide +kernel) ⟨Nat.le_of_ble_eq_true rfl, Nat.le_of_ble_eq_true rfl⟩) rfl rfl (Nat.le_of_ble_eq_true rfl) dX1_sum_2 ⟨Nat.le_of_ble_eq_true rfl, Nat.le_of_ble_eq_true rfl⟩ hQ (Nat.le_of_ble_eq_true rfl) (Nat.le_of_ble_eq_true rfl) (fun E w1 h => ⟨_, h.2.1, hR, Or.inl (⟨h.1, kk2_1 (fun q => h.2.2 q.1)⟩)⟩) (fun v w1 hp => ?_)
  obtain ⟨ok, rfl, rfl⟩ := hp
  refine gStk (st' := [.ref (la L (rI x))]) (pc' := 5) rfl rfl ?_
  obtain ⟨hi, ei⟩ := ok.get
  obtain ⟨hl_, hF⟩ := hR.2.2 (rI x) hi
  have hN := hl_.N
  have hL := hN.le
  refine gAstore (pc := 5) hC (lv' := [(4, .ref (la L (rI x))), (0, .ref (lx L)), (1, .int x), (2, .int y), (3, .int z)]) dX1_sum_5 (by decide) rfl ?_
  refine gAloadN (pc := 7) hC dX1_sum_7 rfl 1 rfl ?_
  refine gIloadN (pc := 8) hC dX1_sum_8 rfl 3 rfl ?_
  refine gVX (pc := 9) (rest := []) (ci := 1) (q0 := 0) hC hEx hl9 (c_X1_rowAt l D L σ y) rfl rfl (cwV 1 hC.2.2.2.2.1 gX1_sum_X1_rowAt rfl rfl rfl (by decide +kernel) ⟨Nat.le_of_ble_eq_true rfl, Nat.le_of_ble_eq_true rfl⟩) rfl rfl (Nat.le_of_ble_eq_true rfl) dX1_sum_9 ⟨Nat.le_of_ble_eq_true rfl, Nat.le_of_ble_eq_true rfl⟩ hQ (Nat.le_of_ble_eq_true rfl) (Nat.le_of_ble_eq_true rfl) (fun E w1 h => ⟨_, h.2.1, hR, Or.inl (⟨h.1, kk2_1 (fun q => h.2.2 q.2)⟩)⟩) (fun v w1 hp => ?_)
  obtain ⟨ok2, rfl, rfl⟩ := hp
  refine gStk (st' := [.ref (la L (rI y))]) (pc' := 12) rfl rfl ?_
  obtain ⟨hi2, ei2⟩ := ok2.get
  obtain ⟨hl2_, hF2⟩ := hR.2.2 (rI y) hi2
  have hN2 := hl2_.N
  have hL2 := hN2.le
  refine gAstore (pc := 12) hC (lv' := [(5, .ref (la L (rI y))), (4, .ref (la L (rI x))), (0, .ref (lx L)), (1, .int x), (2, .int y), (3, .int z)]) dX1_sum_12 (by decide) rfl ?_
  refine gAload (pc := 14) hC dX1_sum_14 1 rfl ?_
  refine gAload (pc := 16) hC dX1_sum_16 0 rfl ?_
  refine gSX (pc := 18) (rest := []) hC hEx hl9 (c_X1_needAlike l D L σ (rI x) (rI y) (Δ.2.1 (rI x)) (Δ.2.1 (rI y)) (Δ.2.2 (rI x)) (Δ.2.2 (rI y)) (by omega) (by omega) hF hF2 hL hL2) (va_cwS 2 hC.2.2.2.2.1 gX1_sum_X1_needAlike rfl rfl rfl (by decide +kernel) ⟨Nat.le_of_ble_eq_true rfl, Nat.le_of_ble_eq_true rfl⟩) rfl rfl (Nat.le_of_ble_eq_true rfl) dX1_sum_18 ⟨Nat.le_of_ble_eq_true rfl, Nat.le_of_ble_eq_true rfl⟩ hQ (Nat.le_of_ble_eq_true rfl) (Nat.le_of_ble_eq_true rfl) (fun E w1 h => ⟨_, h.2.1, hR, Or.inr (⟨h.1, kk2_2 (⟨ok, ok2⟩) h.2.2⟩)⟩) (fun v w1 hp => ?_)
  obtain ⟨oka, rfl, rfl⟩ := hp
  refine gStk (st' := []) (pc' := 21) rfl rfl ?_
  have hG : rowIs σ (rI y) (Δ.2.1 (rI x)) (Δ.2.2 (rI y)) := by rw [oka]; exact hF2
  refine gAload (pc := 21) hC dX1_sum_21 1 rfl ?_
  refine gAload (pc := 23) hC dX1_sum_23 0 rfl ?_
  refine gIloadN (pc := 25) hC dX1_sum_25 rfl 5 rfl ?_
  refine gV (pc := 26) (rest := []) (ci := 0) (q0 := 2 + 2 * (rI x)) hC (c_X0_sumOfProducts l D L σ (rI x) (rI y) (Δ.2.1 (rI x)) (Δ.2.2 (rI x)) (Δ.2.2 (rI y)) z (by omega) (by omega) hF hG hN) rfl (wc_row (by omega)) (cwV 2 hC.2.2.2.2.1 gX1_sum_X0_sumOfProducts rfl rfl rfl (by decide +kernel) ⟨Nat.le_of_ble_eq_true rfl, Nat.le_of_ble_eq_true rfl⟩) rfl rfl (Nat.le_of_ble_eq_true rfl) dX1_sum_26 ⟨Nat.le_of_ble_eq_true rfl, Nat.le_of_ble_eq_true rfl⟩ (fun v w1 hp => ?_)
  obtain ⟨rfl, rfl⟩ := hp
  refine gStk (st' := [.int (nI (sg (Δ.2.1 (rI x)) (fun i => (Δ.2.2 (rI x)) i * (Δ.2.2 (rI y)) (ix (Δ.2.1 (rI x)) (if z = 0 then (i : Int) else -(i : Int))))).val)]) (pc' := 29) rfl rfl ?_
  exact gRetIX hC hQ hr (Nat.le_of_ble_eq_true rfl) (Nat.le_of_ble_eq_true rfl) dX1_sum_29 (⟨kk2_0 (⟨ok, ok2⟩) oka, rfl, σ, rfl, hR⟩)

abbrev rmX1_isBack : Room := { frames := 7, cells := 1, slots := 6, locals := 138 }
set_option maxRecDepth 100000 in
set_option maxHeartbeats 4000000 in
theorem c_X1_isBack (l : Launch) (D : va_G) (L : cLay) (σ : cSt) (Δ : dSt) (x : Int32) (hR : cRel σ Δ)  : gX l yX1_isBack wsX1_isBack rmX1_isBack D (cTy L) (WC L σ) [.ref (lx L), .int x] 1 6 (fun r w => kk1 (okR x) = 0 ∧ r = some (.int (nI 1)) ∧ ∃ σ', w = WC L σ' ∧ cRel σ' Δ) (fun E w => ∃ σ', w = WC L σ' ∧ cRel σ' Δ ∧ ((E = XI ∧ kk1 (okR x) = 1))) := by
  refine gX.of (cc := cX1_isBack) (maxL := 2) (ret := (some .boolean)) (own := RX1) (by decide) rfl rfl (Nat.le_of_ble_eq_true rfl) rfl ?_
  intro p e s m args below meth c A Q hC hr hQ hEx hl9
  refine gAloadN (pc := 0) hC dX1_isBack_0 rfl 0 rfl ?_
  refine gAloadN (pc := 1) hC dX1_isBack_1 rfl 0 rfl ?_
  refine gIloadN (pc := 2) hC dX1_isBack_2 rfl 1 rfl ?_
  refine gVX (pc := 3) (rest := [.ref (lx L)]) (ci := 1) (q0 := 0) hC hEx hl9 (c_X1_rowAt l D L σ x) rfl rfl (cwV 1 hC.2.2.2.2.1 gX1_isBack_X1_rowAt rfl rfl rfl (by decide +kernel) ⟨Nat.le_of_ble_eq_true rfl, Nat.le_of_ble_eq_true rfl⟩) rfl rfl (Nat.le_of_ble_eq_true rfl) dX1_isBack_3 ⟨Nat.le_of_ble_eq_true rfl, Nat.le_of_ble_eq_true rfl⟩ hQ (Nat.le_of_ble_eq_true rfl) (Nat.le_of_ble_eq_true rfl) (fun E w1 h => ⟨_, h.2.1, hR, ⟨h.1, kk1_1 h.2.2⟩⟩) (fun v w1 hp => ?_)
  obtain ⟨ok, rfl, rfl⟩ := hp
  refine gStk (st' := [.ref (la L (rI x)), .ref (lx L)]) (pc' := 6) rfl rfl ?_
  obtain ⟨hi, ei⟩ := ok.get
  obtain ⟨hl_, hF⟩ := hR.2.2 (rI x) hi
  have hN := hl_.N
  have hL := hN.le
  refine gV (pc := 6) (rest := []) (ci := 1) (q0 := 0) hC (c_X1_holdsOneToThree l D L σ (rI x) (Δ.2.1 (rI x)) Δ.1 (Δ.2.2 (rI x)) hi hF hl_ hR.1 hR.2.1) rfl rfl (cwV 1 hC.2.2.2.2.1 gX1_isBack_X1_holdsOneToThree rfl rfl rfl (by decide +kernel) ⟨Nat.le_of_ble_eq_true rfl, Nat.le_of_ble_eq_true rfl⟩) rfl rfl (Nat.le_of_ble_eq_true rfl) dX1_isBack_6 ⟨Nat.le_of_ble_eq_true rfl, Nat.le_of_ble_eq_true rfl⟩ (fun v w1 hp => ?_)
  obtain ⟨rfl, τ1, rfl, k1⟩ := hp
  refine gStk (st' := [.int (nI 1)]) (pc' := 9) rfl rfl ?_
  exact gRetZX hC hQ hr (rfl) (Nat.le_of_ble_eq_true rfl) (Nat.le_of_ble_eq_true rfl) dX1_isBack_9 (⟨kk1_0 ok, rfl, τ1, rfl, hR.keep k1⟩)

abbrev rmX1_isOwn : Room := { frames := 7, cells := 1, slots := 6, locals := 136 }
set_option maxRecDepth 100000 in
set_option maxHeartbeats 4000000 in
theorem c_X1_isOwn (l : Launch) (D : va_G) (L : cLay) (σ : cSt) (Δ : dSt) (x : Int32) (hR : cRel σ Δ)  : gX l yX1_isOwn wsX1_isOwn rmX1_isOwn D (cTy L) (WC L σ) [.ref (lx L), .int x] 1 6 (fun r w => kk1 (okR x) = 0 ∧ r = some (.int (nI 1)) ∧ ∃ σ', w = WC L σ' ∧ cRel σ' Δ) (fun E w => ∃ σ', w = WC L σ' ∧ cRel σ' Δ ∧ ((E = XI ∧ kk1 (okR x) = 1))) := by
  refine gX.of (cc := cX1_isOwn) (maxL := 2) (ret := (some .boolean)) (own := RX1) (by decide) rfl rfl (Nat.le_of_ble_eq_true rfl) rfl ?_
  intro p e s m args below meth c A Q hC hr hQ hEx hl9
  refine gAloadN (pc := 0) hC dX1_isOwn_0 rfl 0 rfl ?_
  refine gAloadN (pc := 1) hC dX1_isOwn_1 rfl 0 rfl ?_
  refine gIloadN (pc := 2) hC dX1_isOwn_2 rfl 1 rfl ?_
  refine gVX (pc := 3) (rest := [.ref (lx L)]) (ci := 1) (q0 := 0) hC hEx hl9 (c_X1_rowAt l D L σ x) rfl rfl (cwV 1 hC.2.2.2.2.1 gX1_isOwn_X1_rowAt rfl rfl rfl (by decide +kernel) ⟨Nat.le_of_ble_eq_true rfl, Nat.le_of_ble_eq_true rfl⟩) rfl rfl (Nat.le_of_ble_eq_true rfl) dX1_isOwn_3 ⟨Nat.le_of_ble_eq_true rfl, Nat.le_of_ble_eq_true rfl⟩ hQ (Nat.le_of_ble_eq_true rfl) (Nat.le_of_ble_eq_true rfl) (fun E w1 h => ⟨_, h.2.1, hR, ⟨h.1, kk1_1 h.2.2⟩⟩) (fun v w1 hp => ?_)
  obtain ⟨ok, rfl, rfl⟩ := hp
  refine gStk (st' := [.ref (la L (rI x)), .ref (lx L)]) (pc' := 6) rfl rfl ?_
  obtain ⟨hi, ei⟩ := ok.get
  obtain ⟨hl_, hF⟩ := hR.2.2 (rI x) hi
  have hN := hl_.N
  have hL := hN.le
  refine gV (pc := 6) (rest := []) (ci := 1) (q0 := 0) hC (c_X1_holdsOwn l D L σ (rI x) (Δ.2.1 (rI x)) Δ.1 (Δ.2.2 (rI x)) hi hF hl_ hR.1 hR.2.1) rfl rfl (cwV 1 hC.2.2.2.2.1 gX1_isOwn_X1_holdsOwn rfl rfl rfl (by decide +kernel) ⟨Nat.le_of_ble_eq_true rfl, Nat.le_of_ble_eq_true rfl⟩) rfl rfl (Nat.le_of_ble_eq_true rfl) dX1_isOwn_6 ⟨Nat.le_of_ble_eq_true rfl, Nat.le_of_ble_eq_true rfl⟩ (fun v w1 hp => ?_)
  obtain ⟨rfl, τ1, rfl, k1⟩ := hp
  refine gStk (st' := [.int (nI 1)]) (pc' := 9) rfl rfl ?_
  exact gRetZX hC hQ hr (rfl) (Nat.le_of_ble_eq_true rfl) (Nat.le_of_ble_eq_true rfl) dX1_isOwn_9 (⟨kk1_0 ok, rfl, τ1, rfl, hR.keep k1⟩)

abbrev rmX1_isInverse : Room := { frames := 7, cells := 1, slots := 6, locals := 137 }
set_option maxRecDepth 100000 in
set_option maxHeartbeats 4000000 in
theorem c_X1_isInverse (l : Launch) (D : va_G) (L : cLay) (σ : cSt) (Δ : dSt) (x : Int32) (hR : cRel σ Δ)  : gX l yX1_isInverse wsX1_isInverse rmX1_isInverse D (cTy L) (WC L σ) [.ref (lx L), .int x] 1 6 (fun r w => kk1 (okR x) = 0 ∧ r = some (.int (nI 1)) ∧ ∃ σ', w = WC L σ' ∧ cRel σ' Δ) (fun E w => ∃ σ', w = WC L σ' ∧ cRel σ' Δ ∧ ((E = XI ∧ kk1 (okR x) = 1))) := by
  refine gX.of (cc := cX1_isInverse) (maxL := 2) (ret := (some .boolean)) (own := RX1) (by decide) rfl rfl (Nat.le_of_ble_eq_true rfl) rfl ?_
  intro p e s m args below meth c A Q hC hr hQ hEx hl9
  refine gAloadN (pc := 0) hC dX1_isInverse_0 rfl 0 rfl ?_
  refine gAloadN (pc := 1) hC dX1_isInverse_1 rfl 0 rfl ?_
  refine gIloadN (pc := 2) hC dX1_isInverse_2 rfl 1 rfl ?_
  refine gVX (pc := 3) (rest := [.ref (lx L)]) (ci := 1) (q0 := 0) hC hEx hl9 (c_X1_rowAt l D L σ x) rfl rfl (cwV 1 hC.2.2.2.2.1 gX1_isInverse_X1_rowAt rfl rfl rfl (by decide +kernel) ⟨Nat.le_of_ble_eq_true rfl, Nat.le_of_ble_eq_true rfl⟩) rfl rfl (Nat.le_of_ble_eq_true rfl) dX1_isInverse_3 ⟨Nat.le_of_ble_eq_true rfl, Nat.le_of_ble_eq_true rfl⟩ hQ (Nat.le_of_ble_eq_true rfl) (Nat.le_of_ble_eq_true rfl) (fun E w1 h => ⟨_, h.2.1, hR, ⟨h.1, kk1_1 h.2.2⟩⟩) (fun v w1 hp => ?_)
  obtain ⟨ok, rfl, rfl⟩ := hp
  refine gStk (st' := [.ref (la L (rI x)), .ref (lx L)]) (pc' := 6) rfl rfl ?_
  obtain ⟨hi, ei⟩ := ok.get
  obtain ⟨hl_, hF⟩ := hR.2.2 (rI x) hi
  have hN := hl_.N
  have hL := hN.le
  refine gV (pc := 6) (rest := []) (ci := 1) (q0 := 0) hC (c_X1_holdsInverse l D L σ (rI x) (Δ.2.1 (rI x)) Δ.1 (Δ.2.2 (rI x)) hi hF hl_ hR.1 hR.2.1) rfl rfl (cwV 1 hC.2.2.2.2.1 gX1_isInverse_X1_holdsInverse rfl rfl rfl (by decide +kernel) ⟨Nat.le_of_ble_eq_true rfl, Nat.le_of_ble_eq_true rfl⟩) rfl rfl (Nat.le_of_ble_eq_true rfl) dX1_isInverse_6 ⟨Nat.le_of_ble_eq_true rfl, Nat.le_of_ble_eq_true rfl⟩ (fun v w1 hp => ?_)
  obtain ⟨rfl, τ1, rfl, k1⟩ := hp
  refine gStk (st' := [.int (nI 1)]) (pc' := 9) rfl rfl ?_
  exact gRetZX hC hQ hr (rfl) (Nat.le_of_ble_eq_true rfl) (Nat.le_of_ble_eq_true rfl) dX1_isInverse_9 (⟨kk1_0 ok, rfl, τ1, rfl, hR.keep k1⟩)

abbrev rmX1_isProduct : Room := { frames := 7, cells := 3, slots := 18, locals := 115 }
set_option maxRecDepth 100000 in
set_option maxHeartbeats 4000000 in
theorem c_X1_isProduct (l : Launch) (D : va_G) (L : cLay) (σ : cSt) (Δ : dSt) (x : Int32) (y : Int32) (hR : cRel σ Δ)  : gX l yX1_isProduct wsX1_isProduct rmX1_isProduct D (cTy L) (WC L σ) [.ref (lx L), .int x, .int y] 3 18 (fun r w => kk2 (okR x ∧ okR y) ((Δ.2.1 (rI x)) = (Δ.2.1 (rI y))) = 0 ∧ r = some (.int (nI 1)) ∧ ∃ σ', w = WC L σ' ∧ cRel σ' Δ) (fun E w => ∃ σ', w = WC L σ' ∧ cRel σ' Δ ∧ ((E = XI ∧ kk2 (okR x ∧ okR y) ((Δ.2.1 (rI x)) = (Δ.2.1 (rI y))) = 1) ∨ (E = XS ∧ kk2 (okR x ∧ okR y) ((Δ.2.1 (rI x)) = (Δ.2.1 (rI y))) = 2))) := by
  refine gX.of (cc := cX1_isProduct) (maxL := 5) (ret := (some .boolean)) (own := RX1) (by decide) rfl rfl (Nat.le_of_ble_eq_true rfl) rfl ?_
  intro p e s m args below meth c A Q hC hr hQ hEx hl9
  refine gAloadN (pc := 0) hC dX1_isProduct_0 rfl 0 rfl ?_
  refine gIloadN (pc := 1) hC dX1_isProduct_1 rfl 1 rfl ?_
  refine gVX (pc := 2) (rest := []) (ci := 1) (q0 := 0) hC hEx hl9 (c_X1_rowAt l D L σ x) rfl rfl (cwV 1 hC.2.2.2.2.1 gX1_isProduct_X1_rowAt rfl rfl rfl (by decide +kernel) ⟨Nat.le_of_ble_eq_true rfl, Nat.le_of_ble_eq_true rfl⟩) rfl rfl (Nat.le_of_ble_eq_true rfl) dX1_isProduct_2 ⟨Nat.le_of_ble_eq_true rfl, Nat.le_of_ble_eq_true rfl⟩ hQ (Nat.le_of_ble_eq_true rfl) (Nat.le_of_ble_eq_true rfl) (fun E w1 h => ⟨_, h.2.1, hR, Or.inl (⟨h.1, kk2_1 (fun q => h.2.2 q.1)⟩)⟩) (fun v w1 hp => ?_)
  obtain ⟨ok, rfl, rfl⟩ := hp
  refine gStk (st' := [.ref (la L (rI x))]) (pc' := 5) rfl rfl ?_
  obtain ⟨hi, ei⟩ := ok.get
  obtain ⟨hl_, hF⟩ := hR.2.2 (rI x) hi
  have hN := hl_.N
  have hL := hN.le
  refine gAstoreN (pc := 5) hC (lv' := [(3, .ref (la L (rI x))), (0, .ref (lx L)), (1, .int x), (2, .int y)]) dX1_isProduct_5 rfl (by decide) rfl ?_
  refine gAloadN (pc := 6) hC dX1_isProduct_6 rfl 1 rfl ?_
  refine gIloadN (pc := 7) hC dX1_isProduct_7 rfl 3 rfl ?_
  refine gVX (pc := 8) (rest := []) (ci := 1) (q0 := 0) hC hEx hl9 (c_X1_rowAt l D L σ y) rfl rfl (cwV 1 hC.2.2.2.2.1 gX1_isProduct_X1_rowAt rfl rfl rfl (by decide +kernel) ⟨Nat.le_of_ble_eq_true rfl, Nat.le_of_ble_eq_true rfl⟩) rfl rfl (Nat.le_of_ble_eq_true rfl) dX1_isProduct_8 ⟨Nat.le_of_ble_eq_true rfl, Nat.le_of_ble_eq_true rfl⟩ hQ (Nat.le_of_ble_eq_true rfl) (Nat.le_of_ble_eq_true rfl) (fun E w1 h => ⟨_, h.2.1, hR, Or.inl (⟨h.1, kk2_1 (fun q => h.2.2 q.2)⟩)⟩) (fun v w1 hp => ?_)
  obtain ⟨ok2, rfl, rfl⟩ := hp
  refine gStk (st' := [.ref (la L (rI y))]) (pc' := 11) rfl rfl ?_
  obtain ⟨hi2, ei2⟩ := ok2.get
  obtain ⟨hl2_, hF2⟩ := hR.2.2 (rI y) hi2
  have hN2 := hl2_.N
  have hL2 := hN2.le
  refine gAstore (pc := 11) hC (lv' := [(4, .ref (la L (rI y))), (3, .ref (la L (rI x))), (0, .ref (lx L)), (1, .int x), (2, .int y)]) dX1_isProduct_11 (by decide) rfl ?_
  refine gAloadN (pc := 13) hC dX1_isProduct_13 rfl 1 rfl ?_
  refine gAload (pc := 14) hC dX1_isProduct_14 0 rfl ?_
  refine gSX (pc := 16) (rest := []) hC hEx hl9 (c_X1_needAlike l D L σ (rI x) (rI y) (Δ.2.1 (rI x)) (Δ.2.1 (rI y)) (Δ.2.2 (rI x)) (Δ.2.2 (rI y)) (by omega) (by omega) hF hF2 hL hL2) (va_cwS 2 hC.2.2.2.2.1 gX1_isProduct_X1_needAlike rfl rfl rfl (by decide +kernel) ⟨Nat.le_of_ble_eq_true rfl, Nat.le_of_ble_eq_true rfl⟩) rfl rfl (Nat.le_of_ble_eq_true rfl) dX1_isProduct_16 ⟨Nat.le_of_ble_eq_true rfl, Nat.le_of_ble_eq_true rfl⟩ hQ (Nat.le_of_ble_eq_true rfl) (Nat.le_of_ble_eq_true rfl) (fun E w1 h => ⟨_, h.2.1, hR, Or.inr (⟨h.1, kk2_2 (⟨ok, ok2⟩) h.2.2⟩)⟩) (fun v w1 hp => ?_)
  obtain ⟨oka, rfl, rfl⟩ := hp
  refine gStk (st' := []) (pc' := 19) rfl rfl ?_
  have hG : rowIs σ (rI y) (Δ.2.1 (rI x)) (Δ.2.2 (rI y)) := by rw [oka]; exact hF2
  refine gAloadN (pc := 19) hC dX1_isProduct_19 rfl 2 rfl ?_
  refine gAloadN (pc := 20) hC dX1_isProduct_20 rfl 1 rfl ?_
  refine gAload (pc := 21) hC dX1_isProduct_21 0 rfl ?_
  refine gV (pc := 23) (rest := []) (ci := 1) (q0 := 0) hC (c_X1_holdsProduct l D L σ (rI x) (rI y) (Δ.2.1 (rI x)) Δ.1 (Δ.2.2 (rI x)) (Δ.2.2 (rI y)) hi hi2 hF hG hl_ hR.1 hR.2.1) rfl rfl (cwV 2 hC.2.2.2.2.1 gX1_isProduct_X1_holdsProduct rfl rfl rfl (by decide +kernel) ⟨Nat.le_of_ble_eq_true rfl, Nat.le_of_ble_eq_true rfl⟩) rfl rfl (Nat.le_of_ble_eq_true rfl) dX1_isProduct_23 ⟨Nat.le_of_ble_eq_true rfl, Nat.le_of_ble_eq_true rfl⟩ (fun v w1 hp => ?_)
  obtain ⟨rfl, τ1, rfl, k1⟩ := hp
  refine gStk (st' := [.int (nI 1)]) (pc' := 26) rfl rfl ?_
  exact gRetZX hC hQ hr (rfl) (Nat.le_of_ble_eq_true rfl) (Nat.le_of_ble_eq_true rfl) dX1_isProduct_26 (⟨kk2_0 ⟨ok, ok2⟩ oka, rfl, τ1, rfl, hR.keep k1⟩)

abbrev rmX1_isPlain : Room := { frames := 7, cells := 4, slots := 24, locals := 103 }
set_option maxRecDepth 100000 in
set_option maxHeartbeats 4000000 in
theorem c_X1_isPlain (l : Launch) (D : va_G) (L : cLay) (σ : cSt) (Δ : dSt) (x : Int32) (y : Int32) (hR : cRel σ Δ)  : gX l yX1_isPlain wsX1_isPlain rmX1_isPlain D (cTy L) (WC L σ) [.ref (lx L), .int x, .int y] 4 24 (fun r w => kk2 (okR x ∧ okR y) ((Δ.2.1 (rI x)) = (Δ.2.1 (rI y)) ∧ (Δ.2.1 (rI x)) < 16) = 0 ∧ r = some (.int (nI 1)) ∧ ∃ σ', w = WC L σ' ∧ cRel σ' Δ) (fun E w => ∃ σ', w = WC L σ' ∧ cRel σ' Δ ∧ ((E = XI ∧ kk2 (okR x ∧ okR y) ((Δ.2.1 (rI x)) = (Δ.2.1 (rI y)) ∧ (Δ.2.1 (rI x)) < 16) = 1) ∨ (E = XS ∧ kk2 (okR x ∧ okR y) ((Δ.2.1 (rI x)) = (Δ.2.1 (rI y)) ∧ (Δ.2.1 (rI x)) < 16) = 2))) := by
  refine gX.of (cc := cX1_isPlain) (maxL := 5) (ret := (some .boolean)) (own := RX1) (by decide) rfl rfl (Nat.le_of_ble_eq_true rfl) rfl ?_
  intro p e s m args below meth c A Q hC hr hQ hEx hl9
  refine gAloadN (pc := 0) hC dX1_isPlain_0 rfl 0 rfl ?_
  refine gIloadN (pc := 1) hC dX1_isPlain_1 rfl 1 rfl ?_
  refine gVX (pc := 2) (rest := []) (ci := 1) (q0 := 0) hC hEx hl9 (c_X1_rowAt l D L σ x) rfl rfl (cwV 1 hC.2.2.2.2.1 gX1_isPlain_X1_rowAt rfl rfl rfl (by decide +kernel) ⟨Nat.le_of_ble_eq_true rfl, Nat.le_of_ble_eq_true rfl⟩) rfl rfl (Nat.le_of_ble_eq_true rfl) dX1_isPlain_2 ⟨Nat.le_of_ble_eq_true rfl, Nat.le_of_ble_eq_true rfl⟩ hQ (Nat.le_of_ble_eq_true rfl) (Nat.le_of_ble_eq_true rfl) (fun E w1 h => ⟨_, h.2.1, hR, Or.inl (⟨h.1, kk2_1 (fun q => h.2.2 q.1)⟩)⟩) (fun v w1 hp => ?_)
  obtain ⟨ok, rfl, rfl⟩ := hp
  refine gStk (st' := [.ref (la L (rI x))]) (pc' := 5) rfl rfl ?_
  obtain ⟨hi, ei⟩ := ok.get
  obtain ⟨hl_, hF⟩ := hR.2.2 (rI x) hi
  have hN := hl_.N
  have hL := hN.le
  refine gAstoreN (pc := 5) hC (lv' := [(3, .ref (la L (rI x))), (0, .ref (lx L)), (1, .int x), (2, .int y)]) dX1_isPlain_5 rfl (by decide) rfl ?_
  refine gAloadN (pc := 6) hC dX1_isPlain_6 rfl 1 rfl ?_
  refine gIloadN (pc := 7) hC dX1_isPlain_7 rfl 3 rfl ?_
  refine gVX (pc := 8) (rest := []) (ci := 1) (q0 := 0) hC hEx hl9 (c_X1_rowAt l D L σ y) rfl rfl (cwV 1 hC.2.2.2.2.1 gX1_isPlain_X1_rowAt rfl rfl rfl (by decide +kernel) ⟨Nat.le_of_ble_eq_true rfl, Nat.le_of_ble_eq_true rfl⟩) rfl rfl (Nat.le_of_ble_eq_true rfl) dX1_isPlain_8 ⟨Nat.le_of_ble_eq_true rfl, Nat.le_of_ble_eq_true rfl⟩ hQ (Nat.le_of_ble_eq_true rfl) (Nat.le_of_ble_eq_true rfl) (fun E w1 h => ⟨_, h.2.1, hR, Or.inl (⟨h.1, kk2_1 (fun q => h.2.2 q.2)⟩)⟩) (fun v w1 hp => ?_)
  obtain ⟨ok2, rfl, rfl⟩ := hp
  refine gStk (st' := [.ref (la L (rI y))]) (pc' := 11) rfl rfl ?_
  obtain ⟨hi2, ei2⟩ := ok2.get
  obtain ⟨hl2_, hF2⟩ := hR.2.2 (rI y) hi2
  have hN2 := hl2_.N
  have hL2 := hN2.le
  refine gAstore (pc := 11) hC (lv' := [(4, .ref (la L (rI y))), (3, .ref (la L (rI x))), (0, .ref (lx L)), (1, .int x), (2, .int y)]) dX1_isPlain_11 (by decide) rfl ?_
  refine gAloadN (pc := 13) hC dX1_isPlain_13 rfl 1 rfl ?_
  refine gAload (pc := 14) hC dX1_isPlain_14 0 rfl ?_
  refine gSX (pc := 16) (rest := []) hC hEx hl9 (c_X1_needAlike l D L σ (rI x) (rI y) (Δ.2.1 (rI x)) (Δ.2.1 (rI y)) (Δ.2.2 (rI x)) (Δ.2.2 (rI y)) (by omega) (by omega) hF hF2 hL hL2) (va_cwS 2 hC.2.2.2.2.1 gX1_isPlain_X1_needAlike rfl rfl rfl (by decide +kernel) ⟨Nat.le_of_ble_eq_true rfl, Nat.le_of_ble_eq_true rfl⟩) rfl rfl (Nat.le_of_ble_eq_true rfl) dX1_isPlain_16 ⟨Nat.le_of_ble_eq_true rfl, Nat.le_of_ble_eq_true rfl⟩ hQ (Nat.le_of_ble_eq_true rfl) (Nat.le_of_ble_eq_true rfl) (fun E w1 h => ⟨_, h.2.1, hR, Or.inr (⟨h.1, kk2_2 ⟨ok, ok2⟩ (fun q => h.2.2 q.1)⟩)⟩) (fun v w1 hp => ?_)
  obtain ⟨oka, rfl, rfl⟩ := hp
  refine gStk (st' := []) (pc' := 19) rfl rfl ?_
  have hG : rowIs σ (rI y) (Δ.2.1 (rI x)) (Δ.2.2 (rI y)) := by rw [oka]; exact hF2
  refine gAloadN (pc := 19) hC dX1_isPlain_19 rfl 1 rfl ?_
  refine gSX (pc := 20) (rest := []) hC hEx hl9 (c_X1_needRoom l D L σ (rI x) (Δ.2.1 (rI x)) (Δ.2.2 (rI x)) (by omega) hF hL) (va_cwS 1 hC.2.2.2.2.1 gX1_isPlain_X1_needRoom rfl rfl rfl (by decide +kernel) ⟨Nat.le_of_ble_eq_true rfl, Nat.le_of_ble_eq_true rfl⟩) rfl rfl (Nat.le_of_ble_eq_true rfl) dX1_isPlain_20 ⟨Nat.le_of_ble_eq_true rfl, Nat.le_of_ble_eq_true rfl⟩ hQ (Nat.le_of_ble_eq_true rfl) (Nat.le_of_ble_eq_true rfl) (fun E w1 h => ⟨_, h.2.1, hR, Or.inr (⟨h.1, kk2_2 ⟨ok, ok2⟩ (fun q => h.2.2 q.2)⟩)⟩) (fun v w1 hp => ?_)
  obtain ⟨okm, rfl, rfl⟩ := hp
  refine gStk (st' := []) (pc' := 23) rfl rfl ?_
  have h8 : (Δ.2.1 (rI x)) ≤ 8 := by rcases hl_ with h | h | h | h <;> omega
  refine gAloadN (pc := 23) hC dX1_isPlain_23 rfl 2 rfl ?_
  refine gAloadN (pc := 24) hC dX1_isPlain_24 rfl 1 rfl ?_
  refine gAload (pc := 25) hC dX1_isPlain_25 0 rfl ?_
  refine gV (pc := 27) (rest := []) (ci := 1) (q0 := 0) hC (c_X1_holdsPlainProduct l D L σ (rI x) (rI y) (Δ.2.1 (rI x)) Δ.1 (Δ.2.2 (rI x)) (Δ.2.2 (rI y)) hi hi2 hF hG hl_ hR.1 hR.2.1 h8) rfl rfl (cwV 2 hC.2.2.2.2.1 gX1_isPlain_X1_holdsPlainProduct rfl rfl rfl (by decide +kernel) ⟨Nat.le_of_ble_eq_true rfl, Nat.le_of_ble_eq_true rfl⟩) rfl rfl (Nat.le_of_ble_eq_true rfl) dX1_isPlain_27 ⟨Nat.le_of_ble_eq_true rfl, Nat.le_of_ble_eq_true rfl⟩ (fun v w1 hp => ?_)
  obtain ⟨rfl, τ1, rfl, k1⟩ := hp
  refine gStk (st' := [.int (nI 1)]) (pc' := 30) rfl rfl ?_
  exact gRetZX hC hQ hr (rfl) (Nat.le_of_ble_eq_true rfl) (Nat.le_of_ble_eq_true rfl) dX1_isPlain_30 (⟨kk2_0 ⟨ok, ok2⟩ ⟨oka, okm⟩, rfl, τ1, rfl, hR.keep k1⟩)

abbrev rmX1_isShifted : Room := { frames := 7, cells := 1, slots := 6, locals := 115 }
set_option maxRecDepth 100000 in
set_option maxHeartbeats 4000000 in
theorem c_X1_isShifted (l : Launch) (D : va_G) (L : cLay) (σ : cSt) (Δ : dSt) (x : Int32) (y : Int32) (hR : cRel σ Δ)  : gX l yX1_isShifted wsX1_isShifted rmX1_isShifted D (cTy L) (WC L σ) [.ref (lx L), .int x, .int y] 1 6 (fun r w => kk1 (okR x) = 0 ∧ r = some (.int (nI 1)) ∧ ∃ σ', w = WC L σ' ∧ cRel σ' Δ) (fun E w => ∃ σ', w = WC L σ' ∧ cRel σ' Δ ∧ ((E = XI ∧ kk1 (okR x) = 1))) := by
  refine gX.of (cc := cX1_isShifted) (maxL := 4) (ret := (some .boolean)) (own := RX1) (by decide) rfl rfl (Nat.le_of_ble_eq_true rfl) rfl ?_
  intro p e s m args below meth c A Q hC hr hQ hEx hl9
  refine gAloadN (pc := 0) hC dX1_isShifted_0 rfl 0 rfl ?_
  refine gIloadN (pc := 1) hC dX1_isShifted_1 rfl 1 rfl ?_
  refine gVX (pc := 2) (rest := []) (ci := 1) (q0 := 0) hC hEx hl9 (c_X1_rowAt l D L σ x) rfl rfl (cwV 1 hC.2.2.2.2.1 gX1_isShifted_X1_rowAt rfl rfl rfl (by decide +kernel) ⟨Nat.le_of_ble_eq_true rfl, Nat.le_of_ble_eq_true rfl⟩) rfl rfl (Nat.le_of_ble_eq_true rfl) dX1_isShifted_2 ⟨Nat.le_of_ble_eq_true rfl, Nat.le_of_ble_eq_true rfl⟩ hQ (Nat.le_of_ble_eq_true rfl) (Nat.le_of_ble_eq_true rfl) (fun E w1 h => ⟨_, h.2.1, hR, ⟨h.1, kk1_1 h.2.2⟩⟩) (fun v w1 hp => ?_)
  obtain ⟨ok, rfl, rfl⟩ := hp
  refine gStk (st' := [.ref (la L (rI x))]) (pc' := 5) rfl rfl ?_
  obtain ⟨hi, ei⟩ := ok.get
  obtain ⟨hl_, hF⟩ := hR.2.2 (rI x) hi
  have hN := hl_.N
  have hL := hN.le
  refine gAstoreN (pc := 5) hC (lv' := [(3, .ref (la L (rI x))), (0, .ref (lx L)), (1, .int x), (2, .int y)]) dX1_isShifted_5 rfl (by decide) rfl ?_
  refine gAloadN (pc := 6) hC dX1_isShifted_6 rfl 1 rfl ?_
  refine gAloadN (pc := 7) hC dX1_isShifted_7 rfl 0 rfl ?_
  refine gIloadN (pc := 8) hC dX1_isShifted_8 rfl 3 rfl ?_
  refine gV (pc := 9) (rest := []) (ci := 1) (q0 := 0) hC (c_X1_holdsShifted l D L σ (rI x) (Δ.2.1 (rI x)) Δ.1 (Δ.2.2 (rI x)) y hi hF hl_ hR.1 hR.2.1) rfl rfl (cwV 2 hC.2.2.2.2.1 gX1_isShifted_X1_holdsShifted rfl rfl rfl (by decide +kernel) ⟨Nat.le_of_ble_eq_true rfl, Nat.le_of_ble_eq_true rfl⟩) rfl rfl (Nat.le_of_ble_eq_true rfl) dX1_isShifted_9 ⟨Nat.le_of_ble_eq_true rfl, Nat.le_of_ble_eq_true rfl⟩ (fun v w1 hp => ?_)
  obtain ⟨rfl, τ1, rfl, k1⟩ := hp
  refine gStk (st' := [.int (nI 1)]) (pc' := 12) rfl rfl ?_
  refine gIf_eq (pc := 12) hC (tgt := 28) dX1_isShifted_12 (by decide) (fun hc1 => absurd hc1 (by decide)) (fun hc1 => ?_)
  refine gAloadN (pc := 15) hC dX1_isShifted_15 rfl 1 rfl ?_
  refine gAloadN (pc := 16) hC dX1_isShifted_16 rfl 0 rfl ?_
  refine gIloadN (pc := 17) hC dX1_isShifted_17 rfl 3 rfl ?_
  refine gV (pc := 18) (rest := []) (ci := 1) (q0 := 0) hC (c_X1_holdsWeighed l D L τ1 (rI x) (Δ.2.1 (rI x)) Δ.1 (Δ.2.2 (rI x)) y hi (hF.eq (k1.2 _ hi)) hl_ (k1.1.trans hR.1) hR.2.1) rfl rfl (cwV 2 hC.2.2.2.2.1 gX1_isShifted_X1_holdsWeighed rfl rfl rfl (by decide +kernel) ⟨Nat.le_of_ble_eq_true rfl, Nat.le_of_ble_eq_true rfl⟩) rfl rfl (Nat.le_of_ble_eq_true rfl) dX1_isShifted_18 ⟨Nat.le_of_ble_eq_true rfl, Nat.le_of_ble_eq_true rfl⟩ (fun v w1 hp => ?_)
  obtain ⟨rfl, τ2, rfl, k2⟩ := hp
  refine gStk (st' := [.int (nI 1)]) (pc' := 21) rfl rfl ?_
  refine gIf_eq (pc := 21) hC (tgt := 28) dX1_isShifted_21 (by decide) (fun hc2 => absurd hc2 (by decide)) (fun hc2 => ?_)
  refine gIconst (pc := 24) hC (v := (nI 1)) dX1_isShifted_24 (by decide +kernel) ?_
  refine gGoto (pc := 25) hC (tgt := 29) dX1_isShifted_25 (by decide) ?_
  exact gRetZX hC hQ hr (rfl) (Nat.le_of_ble_eq_true rfl) (Nat.le_of_ble_eq_true rfl) dX1_isShifted_29 (⟨kk1_0 ok, rfl, τ2, rfl, (hR.keep k1).keep k2⟩)

abbrev rmX1_isSum : Room := { frames := 7, cells := 4, slots := 24, locals := 115 }
set_option maxRecDepth 100000 in
set_option maxHeartbeats 4000000 in
theorem c_X1_isSum (l : Launch) (D : va_G) (L : cLay) (σ : cSt) (Δ : dSt) (x : Int32) (y : Int32) (z : Int32) (hR : cRel σ Δ)  : gX l yX1_isSum wsX1_isSum rmX1_isSum D (cTy L) (WC L σ) [.ref (lx L), .int x, .int y, .int z] 4 24 (fun r w => kk3 (okR x ∧ okR y) (okNum z) ((Δ.2.1 (rI x)) = (Δ.2.1 (rI y))) = 0 ∧ r = some (.int (nI 1)) ∧ ∃ σ', w = WC L σ' ∧ cRel σ' Δ) (fun E w => ∃ σ', w = WC L σ' ∧ cRel σ' Δ ∧ ((E = XI ∧ kk3 (okR x ∧ okR y) (okNum z) ((Δ.2.1 (rI x)) = (Δ.2.1 (rI y))) = 1) ∨ (E = XA ∧ kk3 (okR x ∧ okR y) (okNum z) ((Δ.2.1 (rI x)) = (Δ.2.1 (rI y))) = 2) ∨ (E = XS ∧ kk3 (okR x ∧ okR y) (okNum z) ((Δ.2.1 (rI x)) = (Δ.2.1 (rI y))) = 3))) := by
  refine gX.of (cc := cX1_isSum) (maxL := 6) (ret := (some .boolean)) (own := RX1) (by decide) rfl rfl (Nat.le_of_ble_eq_true rfl) rfl ?_
  intro p e s m args below meth c A Q hC hr hQ hEx hl9
  refine gAloadN (pc := 0) hC dX1_isSum_0 rfl 0 rfl ?_
  refine gIloadN (pc := 1) hC dX1_isSum_1 rfl 1 rfl ?_
  refine gVX (pc := 2) (rest := []) (ci := 1) (q0 := 0) hC hEx hl9 (c_X1_rowAt l D L σ x) rfl rfl (cwV 1 hC.2.2.2.2.1 gX1_isSum_X1_rowAt rfl rfl rfl (by decide +kernel) ⟨Nat.le_of_ble_eq_true rfl, Nat.le_of_ble_eq_true rfl⟩) rfl rfl (Nat.le_of_ble_eq_true rfl) dX1_isSum_2 ⟨Nat.le_of_ble_eq_true rfl, Nat.le_of_ble_eq_true rfl⟩ hQ (Nat.le_of_ble_eq_true rfl) (Nat.le_of_ble_eq_true rfl) (fun E w1 h => ⟨_, h.2.1, hR, Or.inl (⟨h.1, kk3_1 (fun q => h.2.2 q.1)⟩)⟩) (fun v w1 hp => ?_)
  obtain ⟨ok, rfl, rfl⟩ := hp
  refine gStk (st' := [.ref (la L (rI x))]) (pc' := 5) rfl rfl ?_
  obtain ⟨hi, ei⟩ := ok.get
  obtain ⟨hl_, hF⟩ := hR.2.2 (rI x) hi
  have hN := hl_.N
  have hL := hN.le
  refine gAstore (pc := 5) hC (lv' := [(4, .ref (la L (rI x))), (0, .ref (lx L)), (1, .int x), (2, .int y), (3, .int z)]) dX1_isSum_5 (by decide) rfl ?_
  refine gAloadN (pc := 7) hC dX1_isSum_7 rfl 1 rfl ?_
  refine gIloadN (pc := 8) hC dX1_isSum_8 rfl 3 rfl ?_
  refine gVX (pc := 9) (rest := []) (ci := 1) (q0 := 0) hC hEx hl9 (c_X1_rowAt l D L σ y) rfl rfl (cwV 1 hC.2.2.2.2.1 gX1_isSum_X1_rowAt rfl rfl rfl (by decide +kernel) ⟨Nat.le_of_ble_eq_true rfl, Nat.le_of_ble_eq_true rfl⟩) rfl rfl (Nat.le_of_ble_eq_true rfl) dX1_isSum_9 ⟨Nat.le_of_ble_eq_true rfl, Nat.le_of_ble_eq_true rfl⟩ hQ (Nat.le_of_ble_eq_true rfl) (Nat.le_of_ble_eq_true rfl) (fun E w1 h => ⟨_, h.2.1, hR, Or.inl (⟨h.1, kk3_1 (fun q => h.2.2 q.2)⟩)⟩) (fun v w1 hp => ?_)
  obtain ⟨ok2, rfl, rfl⟩ := hp
  refine gStk (st' := [.ref (la L (rI y))]) (pc' := 12) rfl rfl ?_
  obtain ⟨hi2, ei2⟩ := ok2.get
  obtain ⟨hl2_, hF2⟩ := hR.2.2 (rI y) hi2
  have hN2 := hl2_.N
  have hL2 := hN2.le
  refine gAstore (pc := 12) hC (lv' := [(5, .ref (la L (rI y))), (4, .ref (la L (rI x))), (0, .ref (lx L)), (1, .int x), (2, .int y), (3, .int z)]) dX1_isSum_12 (by decide) rfl ?_
  refine gIloadN (pc := 14) hC dX1_isSum_14 rfl 5 rfl ?_
  refine gSX (pc := 15) (rest := []) hC hEx hl9 (c_X1_needNumber l D (cTy L) _ z) (va_cwS 1 hC.2.2.2.2.1 gX1_isSum_X1_needNumber rfl rfl rfl (by decide +kernel) ⟨Nat.le_of_ble_eq_true rfl, Nat.le_of_ble_eq_true rfl⟩) rfl rfl (Nat.le_of_ble_eq_true rfl) dX1_isSum_15 ⟨Nat.le_of_ble_eq_true rfl, Nat.le_of_ble_eq_true rfl⟩ hQ (Nat.le_of_ble_eq_true rfl) (Nat.le_of_ble_eq_true rfl) (fun E w1 h => ⟨_, h.2.1, hR, Or.inr (Or.inl (⟨h.1, kk3_2 (⟨ok, ok2⟩) h.2.2⟩))⟩) (fun v w1 hp => ?_)
  obtain ⟨okn, rfl, rfl⟩ := hp
  refine gStk (st' := []) (pc' := 18) rfl rfl ?_
  have en := nu_val okn
  refine gAload (pc := 18) hC dX1_isSum_18 1 rfl ?_
  refine gAload (pc := 20) hC dX1_isSum_20 0 rfl ?_
  refine gSX (pc := 22) (rest := []) hC hEx hl9 (c_X1_needAlike l D L σ (rI x) (rI y) (Δ.2.1 (rI x)) (Δ.2.1 (rI y)) (Δ.2.2 (rI x)) (Δ.2.2 (rI y)) (by omega) (by omega) hF hF2 hL hL2) (va_cwS 2 hC.2.2.2.2.1 gX1_isSum_X1_needAlike rfl rfl rfl (by decide +kernel) ⟨Nat.le_of_ble_eq_true rfl, Nat.le_of_ble_eq_true rfl⟩) rfl rfl (Nat.le_of_ble_eq_true rfl) dX1_isSum_22 ⟨Nat.le_of_ble_eq_true rfl, Nat.le_of_ble_eq_true rfl⟩ hQ (Nat.le_of_ble_eq_true rfl) (Nat.le_of_ble_eq_true rfl) (fun E w1 h => ⟨_, h.2.1, hR, Or.inr (Or.inr (⟨h.1, kk3_3 ⟨ok, ok2⟩ okn h.2.2⟩))⟩) (fun v w1 hp => ?_)
  obtain ⟨oka, rfl, rfl⟩ := hp
  refine gStk (st' := []) (pc' := 25) rfl rfl ?_
  have hG : rowIs σ (rI y) (Δ.2.1 (rI x)) (Δ.2.2 (rI y)) := by rw [oka]; exact hF2
  refine gAloadN (pc := 25) hC dX1_isSum_25 rfl 2 rfl ?_
  refine gAload (pc := 26) hC dX1_isSum_26 1 rfl ?_
  refine gAload (pc := 28) hC dX1_isSum_28 0 rfl ?_
  refine gV (pc := 30) (rest := []) (ci := 1) (q0 := 0) hC (c_X1_holdsSumOfProducts l D L σ (rI x) (rI y) (Δ.2.1 (rI x)) Δ.1 (Δ.2.2 (rI x)) (Δ.2.2 (rI y)) hi hi2 hF hG hl_ hR.1 hR.2.1) rfl rfl (cwV 2 hC.2.2.2.2.1 gX1_isSum_X1_holdsSumOfProducts rfl rfl rfl (by decide +kernel) ⟨Nat.le_of_ble_eq_true rfl, Nat.le_of_ble_eq_true rfl⟩) rfl rfl (Nat.le_of_ble_eq_true rfl) dX1_isSum_30 ⟨Nat.le_of_ble_eq_true rfl, Nat.le_of_ble_eq_true rfl⟩ (fun v w1 hp => ?_)
  obtain ⟨rfl, τ1, rfl, k1⟩ := hp
  refine gStk (st' := [.int (nI 1)]) (pc' := 33) rfl rfl ?_
  refine gIf_eq (pc := 33) hC (tgt := 61) dX1_isSum_33 (by decide) (fun hc1 => absurd hc1 (by decide)) (fun hc1 => ?_)
  refine gAloadN (pc := 36) hC dX1_isSum_36 rfl 2 rfl ?_
  refine gAload (pc := 37) hC dX1_isSum_37 1 rfl ?_
  refine gAload (pc := 39) hC dX1_isSum_39 0 rfl ?_
  refine gV (pc := 41) (rest := []) (ci := 1) (q0 := 0) hC (c_X1_holdsSums l D L τ1 (rI x) (rI y) (Δ.2.1 (rI x)) Δ.1 (Δ.2.2 (rI x)) (Δ.2.2 (rI y)) hi hi2 (hF.eq (k1.2 _ hi)) (hG.eq (k1.2 _ hi2)) hl_ (k1.1.trans hR.1) hR.2.1) rfl rfl (cwV 2 hC.2.2.2.2.1 gX1_isSum_X1_holdsSums rfl rfl rfl (by decide +kernel) ⟨Nat.le_of_ble_eq_true rfl, Nat.le_of_ble_eq_true rfl⟩) rfl rfl (Nat.le_of_ble_eq_true rfl) dX1_isSum_41 ⟨Nat.le_of_ble_eq_true rfl, Nat.le_of_ble_eq_true rfl⟩ (fun v w1 hp => ?_)
  obtain ⟨rfl, τ2, rfl, k2⟩ := hp
  refine gStk (st' := [.int (nI 1)]) (pc' := 44) rfl rfl ?_
  refine gIf_eq (pc := 44) hC (tgt := 61) dX1_isSum_44 (by decide) (fun hc2 => absurd hc2 (by decide)) (fun hc2 => ?_)
  refine gAloadN (pc := 47) hC dX1_isSum_47 rfl 2 rfl ?_
  refine gAload (pc := 48) hC dX1_isSum_48 1 rfl ?_
  refine gIloadN (pc := 50) hC dX1_isSum_50 rfl 5 rfl ?_
  refine gV (pc := 51) (rest := []) (ci := 1) (q0 := 0) hC (c_X1_holdsScaled l D L τ2 (rI x) (Δ.2.1 (rI x)) Δ.1 (Δ.2.2 (rI x)) z (nu z) hi (hF.eq ((k1.tr k2).2 _ hi)) hl_ ((k1.tr k2).1.trans hR.1) hR.2.1 en) rfl rfl (cwV 2 hC.2.2.2.2.1 gX1_isSum_X1_holdsScaled rfl rfl rfl (by decide +kernel) ⟨Nat.le_of_ble_eq_true rfl, Nat.le_of_ble_eq_true rfl⟩) rfl rfl (Nat.le_of_ble_eq_true rfl) dX1_isSum_51 ⟨Nat.le_of_ble_eq_true rfl, Nat.le_of_ble_eq_true rfl⟩ (fun v w1 hp => ?_)
  obtain ⟨rfl, τ3, rfl, k3⟩ := hp
  refine gStk (st' := [.int (nI 1)]) (pc' := 54) rfl rfl ?_
  refine gIf_eq (pc := 54) hC (tgt := 61) dX1_isSum_54 (by decide) (fun hc3 => absurd hc3 (by decide)) (fun hc3 => ?_)
  refine gIconst (pc := 57) hC (v := (nI 1)) dX1_isSum_57 (by decide +kernel) ?_
  refine gGoto (pc := 58) hC (tgt := 62) dX1_isSum_58 (by decide) ?_
  exact gRetZX hC hQ hr (rfl) (Nat.le_of_ble_eq_true rfl) (Nat.le_of_ble_eq_true rfl) dX1_isSum_62 (⟨kk3_0 ⟨ok, ok2⟩ okn oka, rfl, τ3, rfl, ((hR.keep k1).keep k2).keep k3⟩)

abbrev rmX1_isAgain : Room := { frames := 7, cells := 2, slots := 12, locals := 115 }
set_option maxRecDepth 100000 in
set_option maxHeartbeats 4000000 in
theorem c_X1_isAgain (l : Launch) (D : va_G) (L : cLay) (σ : cSt) (Δ : dSt) (x : Int32) (y : Int32) (hR : cRel σ Δ)  : gX l yX1_isAgain wsX1_isAgain rmX1_isAgain D (cTy L) (WC L σ) [.ref (lx L), .int x, .int y] 2 12 (fun r w => kk2 (okR x) (okD y ∧ ¬ nI (Δ.2.1 (rI x)) < y) = 0 ∧ r = some (.int (nI 1)) ∧ ∃ σ', w = WC L σ' ∧ cRel σ' Δ) (fun E w => ∃ σ', w = WC L σ' ∧ cRel σ' Δ ∧ ((E = XI ∧ kk2 (okR x) (okD y ∧ ¬ nI (Δ.2.1 (rI x)) < y) = 1) ∨ (E = XA ∧ kk2 (okR x) (okD y ∧ ¬ nI (Δ.2.1 (rI x)) < y) = 2))) := by
  refine gX.of (cc := cX1_isAgain) (maxL := 4) (ret := (some .boolean)) (own := RX1) (by decide) rfl rfl (Nat.le_of_ble_eq_true rfl) rfl ?_
  intro p e s m args below meth c A Q hC hr hQ hEx hl9
  have hin1 : ∀ w ∈ u_ws RX1 TX1 8, w ∈ wsX1_isAgain := by decide +kernel
  have hl26 : Cond.fieldLink RX1 26 "Rootrows" "wanted" "LRootrows$Row;" ∈ wsX1_isAgain := by decide +kernel
  refine gAloadN (pc := 0) hC dX1_isAgain_0 rfl 0 rfl ?_
  refine gIloadN (pc := 1) hC dX1_isAgain_1 rfl 1 rfl ?_
  refine gVX (pc := 2) (rest := []) (ci := 1) (q0 := 0) hC hEx hl9 (c_X1_rowAt l D L σ x) rfl rfl (cwV 1 hC.2.2.2.2.1 gX1_isAgain_X1_rowAt rfl rfl rfl (by decide +kernel) ⟨Nat.le_of_ble_eq_true rfl, Nat.le_of_ble_eq_true rfl⟩) rfl rfl (Nat.le_of_ble_eq_true rfl) dX1_isAgain_2 ⟨Nat.le_of_ble_eq_true rfl, Nat.le_of_ble_eq_true rfl⟩ hQ (Nat.le_of_ble_eq_true rfl) (Nat.le_of_ble_eq_true rfl) (fun E w1 h => ⟨_, h.2.1, hR, Or.inl (⟨h.1, kk2_1 h.2.2⟩)⟩) (fun v w1 hp => ?_)
  obtain ⟨ok, rfl, rfl⟩ := hp
  refine gStk (st' := [.ref (la L (rI x))]) (pc' := 5) rfl rfl ?_
  obtain ⟨hi, ei⟩ := ok.get
  obtain ⟨hl_, hF⟩ := hR.2.2 (rI x) hi
  have hN := hl_.N
  have hL := hN.le
  refine gAstoreN (pc := 5) hC (lv' := [(3, .ref (la L (rI x))), (0, .ref (lx L)), (1, .int x), (2, .int y)]) dX1_isAgain_5 rfl (by decide) rfl ?_
  refine gAloadN (pc := 6) hC dX1_isAgain_6 rfl 0 rfl ?_
  refine gIloadN (pc := 7) hC dX1_isAgain_7 rfl 3 rfl ?_
  refine gSX (pc := 8) (rest := []) hC hEx hl9 (c_X1_needAfter l D L σ (rI x) (Δ.2.1 (rI x)) (Δ.2.2 (rI x)) y (by omega) hF) (va_cwS 2 hC.2.2.2.2.1 gX1_isAgain_X1_needAfter rfl rfl rfl (by decide +kernel) ⟨Nat.le_of_ble_eq_true rfl, Nat.le_of_ble_eq_true rfl⟩) rfl rfl (Nat.le_of_ble_eq_true rfl) dX1_isAgain_8 ⟨Nat.le_of_ble_eq_true rfl, Nat.le_of_ble_eq_true rfl⟩ hQ (Nat.le_of_ble_eq_true rfl) (Nat.le_of_ble_eq_true rfl) (fun E w1 h => ⟨_, h.2.1, hR, Or.inr (⟨h.1, kk2_2 ok h.2.2⟩)⟩) (fun v w1 hp => ?_)
  obtain ⟨oka, rfl, rfl⟩ := hp
  refine gStk (st' := []) (pc' := 11) rfl rfl ?_
  obtain ⟨hd, ed⟩ := oka.1.get
  refine gAloadN (pc := 11) hC dX1_isAgain_11 rfl 1 rfl ?_
  refine cGetRow (pc := 12) hC 4 (by decide) rfl hin1 hl26 dX1_isAgain_12 ?_
  refine gAloadN (pc := 15) hC dX1_isAgain_15 rfl 0 rfl ?_
  refine gIloadN (pc := 16) hC dX1_isAgain_16 rfl 3 rfl ?_
  have hx2 : Value.int y = Value.int (nI (rI y)) := congrArg Value.int ed
  refine gStk (st' := [.int (nI (rI y)), .ref (la L (rI x)), .ref (la L 7)]) (pc' := 17) (by rw [← hx2]) rfl ?_
  refine gV (pc := 17) (rest := []) (ci := 0) (q0 := 2 + 2 * 7) hC (c_X0_becomeRepeated l D L σ 7 (rI x) (Δ.2.1 (rI x)) (rI y) (Δ.2.2 (rI x)) (by decide) (by omega) (by omega) hF hN hd) rfl (wc_row (by decide)) (cwV 2 hC.2.2.2.2.1 gX1_isAgain_X0_becomeRepeated rfl rfl rfl (by decide +kernel) ⟨Nat.le_of_ble_eq_true rfl, Nat.le_of_ble_eq_true rfl⟩) rfl rfl (Nat.le_of_ble_eq_true rfl) dX1_isAgain_17 ⟨Nat.le_of_ble_eq_true rfl, Nat.le_of_ble_eq_true rfl⟩ (fun v w1 hp => ?_)
  obtain ⟨rfl, τ1, rfl, k1, f1⟩ := hp
  refine gStk (st' := []) (pc' := 20) rfl rfl ?_
  refine gAloadN (pc := 20) hC dX1_isAgain_20 rfl 1 rfl ?_
  refine gAloadN (pc := 21) hC dX1_isAgain_21 rfl 0 rfl ?_
  refine gV (pc := 22) (rest := []) (ci := 1) (q0 := 0) hC (c_X1_holdsAgain l D L τ1 (rI x) (Δ.2.1 (rI x)) Δ.1 (Δ.2.2 (rI x)) (by omega) (hF.kept k1 (by omega)) hl_ (k1.1.trans hR.1) hR.2.1) rfl rfl (cwV 1 hC.2.2.2.2.1 gX1_isAgain_X1_holdsAgain rfl rfl rfl (by decide +kernel) ⟨Nat.le_of_ble_eq_true rfl, Nat.le_of_ble_eq_true rfl⟩) rfl rfl (Nat.le_of_ble_eq_true rfl) dX1_isAgain_22 ⟨Nat.le_of_ble_eq_true rfl, Nat.le_of_ble_eq_true rfl⟩ (fun v w1 hp => ?_)
  obtain ⟨rfl, τ2, rfl, k2⟩ := hp
  refine gStk (st' := [.int (nI 1)]) (pc' := 25) rfl rfl ?_
  refine gIf_eq (pc := 25) hC (tgt := 43) dX1_isAgain_25 (by decide) (fun hc1 => absurd hc1 (by decide)) (fun hc1 => ?_)
  refine gAloadN (pc := 28) hC dX1_isAgain_28 rfl 1 rfl ?_
  refine gAloadN (pc := 29) hC dX1_isAgain_29 rfl 1 rfl ?_
  refine cGetRow (pc := 30) hC 4 (by decide) rfl hin1 hl26 dX1_isAgain_30 ?_
  refine gV (pc := 33) (rest := []) (ci := 1) (q0 := 0) hC (c_X1_holdsAgain l D L τ2 7 (Δ.2.1 (rI x)) Δ.1 (fun i => (Δ.2.2 (rI x)) (i % (rI y))) (by decide) (f1.eq (k2.2 7 (by decide))) hl_ (k2.1.trans (k1.1.trans hR.1)) hR.2.1) rfl rfl (cwV 1 hC.2.2.2.2.1 gX1_isAgain_X1_holdsAgain rfl rfl rfl (by decide +kernel) ⟨Nat.le_of_ble_eq_true rfl, Nat.le_of_ble_eq_true rfl⟩) rfl rfl (Nat.le_of_ble_eq_true rfl) dX1_isAgain_33 ⟨Nat.le_of_ble_eq_true rfl, Nat.le_of_ble_eq_true rfl⟩ (fun v w1 hp => ?_)
  obtain ⟨rfl, τ3, rfl, k3⟩ := hp
  refine gStk (st' := [.int (nI 1)]) (pc' := 36) rfl rfl ?_
  refine gIf_eq (pc := 36) hC (tgt := 43) dX1_isAgain_36 (by decide) (fun hc2 => absurd hc2 (by decide)) (fun hc2 => ?_)
  refine gIconst (pc := 39) hC (v := (nI 1)) dX1_isAgain_39 (by decide +kernel) ?_
  refine gGoto (pc := 40) hC (tgt := 44) dX1_isAgain_40 (by decide) ?_
  exact gRetZX hC hQ hr (rfl) (Nat.le_of_ble_eq_true rfl) (Nat.le_of_ble_eq_true rfl) dX1_isAgain_44 (⟨kk2_0 ok oka, rfl, τ3, rfl, ((hR.same k1 (by decide)).keep (k2.sub (fun q hq => by omega))).keep (k3.sub (fun q hq => by omega))⟩)

abbrev rmX1_isSound : Room := { frames := 6, cells := 0, slots := 0, locals := 138 }
set_option maxRecDepth 100000 in
set_option maxHeartbeats 4000000 in
theorem c_X1_isSound (l : Launch) (D : va_G) (L : cLay) (σ : cSt) (Δ : dSt)  (hR : cRel σ Δ)  : gM l yX1_isSound wsX1_isSound rmX1_isSound D (cTy L) (WC L σ) [.ref (lx L)] 0 0 (fun r w => r = some (.int (nI 1)) ∧ ∃ σ', w = WC L σ' ∧ cRel σ' Δ) := by
  refine gM.of (cc := cX1_isSound) (maxL := 2) (ret := (some .boolean)) (own := RX1) (by decide) rfl rfl (Nat.le_of_ble_eq_true rfl) rfl ?_
  intro p e s m args below meth c A Q hC hr hnm hQ
  have hin1 : ∀ w ∈ u_ws RX1 TX1 8, w ∈ wsX1_isSound := by decide +kernel
  have hl11 : Cond.fieldLink RX1 11 "Rootrows" "rows" "[LRootrows$Row;" ∈ wsX1_isSound := by decide +kernel
  refine gIconst (pc := 0) hC (v := (nI 0)) dX1_isSound_0 (by decide +kernel) ?_
  refine gIstoreN (pc := 1) hC (lv' := [(1, .int (nI 0)), (0, .ref (lx L))]) dX1_isSound_1 rfl (by decide) rfl ?_
  refine gLoc (lv' := [(1, .int (nI 0)), (0, .ref (lx L))]) [0, 1] rfl ?_
  refine loopUp (S := Unit) (fun i ζ => gG p l e rmX1_isSound s m args below meth c D A 2 0 0 Q (WC L σ) 2 [(1, .int (nI i)), (0, .ref (lx L))] []) (fun i ζ => True) 4 ?_ ?_ 0 (()) (by omega) (trivial)
  · intro ζ hI
    revert hI; generalize ζ = uu; intro hI
    refine gIloadN (pc := 2) hC dX1_isSound_2 rfl 0 rfl ?_
    refine gIconst (pc := 3) hC (v := (nI 4)) dX1_isSound_3 (by decide +kernel) ?_
    refine gIcmp_ge (pc := 4) hC (tgt := 27) dX1_isSound_4 (by decide) (fun hc1 => ?_) (fun hc1 => absurd (nI_le (Nat.le_refl _) (by decide)) hc1)
    refine gAloadN (pc := 27) hC dX1_isSound_27 rfl 1 rfl ?_
    refine gAloadN (pc := 28) hC dX1_isSound_28 rfl 1 rfl ?_
    refine cGetRows (pc := 29) hC hin1 hl11 dX1_isSound_29 ?_
    refine gIconst (pc := 32) hC (v := (nI 0)) dX1_isSound_32 (by decide +kernel) ?_
    refine cRowAld (pc := 33) hC 0 (rfl) (by decide) dX1_isSound_33 ?_
    obtain ⟨hl0, h0⟩ := hR.2.2 0 (by decide)
    refine gV (pc := 34) (rest := []) (ci := 1) (q0 := 0) hC (c_X1_holdsOneToThree l D L σ 0 (Δ.2.1 0) Δ.1 (Δ.2.2 0) (by decide) h0 hl0 hR.1 hR.2.1) rfl rfl (cwV 1 hC.2.2.2.2.1 gX1_isSound_X1_holdsOneToThree rfl rfl rfl (by decide +kernel) ⟨Nat.le_of_ble_eq_true rfl, Nat.le_of_ble_eq_true rfl⟩) rfl rfl (Nat.le_of_ble_eq_true rfl) dX1_isSound_34 ⟨Nat.le_of_ble_eq_true rfl, Nat.le_of_ble_eq_true rfl⟩ (fun v w1 hp => ?_)
    obtain ⟨rfl, τ1, rfl, k1⟩ := hp
    refine gStk (st' := [.int (nI 1)]) (pc' := 37) rfl rfl ?_
    exact gRetZ hC hQ hr (rfl) (Nat.le_of_ble_eq_true rfl) (Nat.le_of_ble_eq_true rfl) dX1_isSound_37 (⟨rfl, τ1, rfl, hR.keep k1⟩)
  · intro i ζ hi hI ih
    revert hI; generalize ζ = uu; intro hI
    refine gIloadN (pc := 2) hC dX1_isSound_2 rfl 0 rfl ?_
    refine gIconst (pc := 3) hC (v := (nI 4)) dX1_isSound_3 (by decide +kernel) ?_
    refine gIcmp_ge (pc := 4) hC (tgt := 27) dX1_isSound_4 (by decide) (fun hc2 => absurd hc2 (nI_ge hi (by decide))) (fun hc2 => ?_)
    refine gAloadN (pc := 7) hC dX1_isSound_7 rfl 1 rfl ?_
    refine cGetRows (pc := 8) hC hin1 hl11 dX1_isSound_8 ?_
    refine gIloadN (pc := 11) hC dX1_isSound_11 rfl 0 rfl ?_
    refine cRowAld (pc := 12) hC i (rfl) (hi) dX1_isSound_12 ?_
    obtain ⟨hl0, h0⟩ := hR.2.2 i hi
    refine gV (pc := 13) (rest := []) (ci := 0) (q0 := 2 + 2 * i) hC (c_X0_isInRange l D L σ i (Δ.2.1 i) (Δ.2.2 i) (by omega) h0 hl0.N.le) rfl (wc_row (by omega)) (cwV 0 hC.2.2.2.2.1 gX1_isSound_X0_isInRange rfl rfl rfl (by decide +kernel) ⟨Nat.le_of_ble_eq_true rfl, Nat.le_of_ble_eq_true rfl⟩) rfl rfl (Nat.le_of_ble_eq_true rfl) dX1_isSound_13 ⟨Nat.le_of_ble_eq_true rfl, Nat.le_of_ble_eq_true rfl⟩ (fun v w1 hp => ?_)
    obtain ⟨rfl, rfl⟩ := hp
    refine gStk (st' := [.int (nI 1)]) (pc' := 16) rfl rfl ?_
    refine gIf_ne (pc := 16) hC (tgt := 21) dX1_isSound_16 (by decide) (fun hc3 => ?_) (fun hc3 => absurd hc3 (by decide))
    refine gIinc (pc := 21) hC (v := (nI (i + 1))) (lv' := [(1, .int (nI (i + 1))), (0, .ref (lx L))]) dX1_isSound_21 (q := 0) rfl (nI_1 _) (by decide) rfl ?_
    refine gGoto (pc := 24) hC (tgt := 2) dX1_isSound_24 (by decide) ?_
    refine gLoc (lv' := [(1, .int (nI (i + 1))), (0, .ref (lx L))]) [0, 1] rfl ?_
    exact ih (()) (trivial)

abbrev rmX1_checksum : Room := { frames := 0, cells := 0, slots := 0, locals := 0 }
set_option maxRecDepth 100000 in
set_option maxHeartbeats 4000000 in
theorem c_X1_checksum (l : Launch) (D : va_G) (L : cLay) (σ : cSt) (Δ : dSt)  (hR : cRel σ Δ)  : gM l yX1_checksum wsX1_checksum rmX1_checksum D (cTy L) (WC L σ) [.ref (lx L)] 0 0 (fun r w => r = some (.long (ckD Δ 4)) ∧ ∃ σ', w = WC L σ' ∧ cRel σ' Δ) := by
  refine gM.of (cc := cX1_checksum) (maxL := 6) (ret := (some .long)) (own := RX1) (by decide) rfl rfl (Nat.le_of_ble_eq_true rfl) rfl ?_
  intro p e s m args below meth c A Q hC hr hnm hQ
  have hin0 : ∀ w ∈ u_ws RX0 TX0 2, w ∈ wsX1_checksum := by decide +kernel
  have hin1 : ∀ w ∈ u_ws RX1 TX1 8, w ∈ wsX1_checksum := by decide +kernel
  have hl11 : Cond.fieldLink RX1 11 "Rootrows" "rows" "[LRootrows$Row;" ∈ wsX1_checksum := by decide +kernel
  have hl35 : Cond.fieldLink RX1 35 "Rootrows" "odd" "I" ∈ wsX1_checksum := by decide +kernel
  have hl47 : Cond.fieldLink RX1 47 "Rootrows$Row" "size" "I" ∈ wsX1_checksum := by decide +kernel
  have hl60 : Cond.fieldLink RX1 60 "Rootrows$Row" "numbers" "[I" ∈ wsX1_checksum := by decide +kernel
  refine gLdc2 (pc := 0) hC (v := 217) dX1_checksum_0 (by decide +kernel) ?_
  refine gAloadN (pc := 3) hC dX1_checksum_3 rfl 0 rfl ?_
  refine cGetOdd (pc := 4) hC hin1 hl35 rfl dX1_checksum_4 ?_
  refine gStk (st' := [.int (nI Δ.1), .long (217)]) (pc' := 7) (by rw [hR.1]) rfl ?_
  refine gI2l (pc := 7) hC (v := (lN Δ.1)) dX1_checksum_7 (nI_l (by have := hR.2.1; unfold okO at this; omega)) ?_
  refine gLadd (pc := 8) hC (v := (ckD Δ 0)) dX1_checksum_8 (rfl) ?_
  refine gLstoreN (pc := 9) hC (lv' := [(1, .long (ckD Δ 0)), (0, .ref (lx L))]) dX1_checksum_9 rfl (by decide) rfl ?_
  refine gIconst (pc := 10) hC (v := (nI 0)) dX1_checksum_10 (by decide +kernel) ?_
  refine gIstoreN (pc := 11) hC (lv' := [(3, .int (nI 0)), (1, .long (ckD Δ 0)), (0, .ref (lx L))]) dX1_checksum_11 rfl (by decide) rfl ?_
  refine gLoc (lv' := [(3, .int (nI 0)), (1, .long (ckD Δ 0)), (0, .ref (lx L))]) [0, 1, 2] rfl ?_
  refine loopUp (S := Int64) (fun i ζ => gG p l e rmX1_checksum s m args below meth c D A 6 0 0 Q (WC L σ) 12 [(3, .int (nI i)), (1, .long ζ), (0, .ref (lx L))] []) (fun i ζ => ζ = ckD Δ i) 4 ?_ ?_ 0 ((ckD Δ 0)) (by omega) (rfl)
  · intro ζ hI
    revert hI; generalize ζ = c1; intro hI
    refine gIloadN (pc := 12) hC dX1_checksum_12 rfl 0 rfl ?_
    refine gIconst (pc := 13) hC (v := (nI 4)) dX1_checksum_13 (by decide +kernel) ?_
    refine gIcmp_ge (pc := 14) hC (tgt := 79) dX1_checksum_14 (by decide) (fun hc1 => ?_) (fun hc1 => absurd (nI_le (Nat.le_refl _) (by decide)) hc1)
    refine gLloadN (pc := 79) hC dX1_checksum_79 rfl 1 rfl ?_
    exact gRetL hC hQ hr (Nat.le_of_ble_eq_true rfl) (Nat.le_of_ble_eq_true rfl) dX1_checksum_80 (⟨by rw [hI], _, rfl, hR⟩)
  · intro i ζ hi hI ih
    revert hI; generalize ζ = c1; intro hI
    refine gIloadN (pc := 12) hC dX1_checksum_12 rfl 0 rfl ?_
    refine gIconst (pc := 13) hC (v := (nI 4)) dX1_checksum_13 (by decide +kernel) ?_
    refine gIcmp_ge (pc := 14) hC (tgt := 79) dX1_checksum_14 (by decide) (fun hc2 => absurd hc2 (nI_ge hi (by decide))) (fun hc2 => ?_)
    obtain ⟨hl0, h0⟩ := hR.2.2 i hi
    have hL := hl0.N.le
    refine gAloadN (pc := 17) hC dX1_checksum_17 rfl 2 rfl ?_
    refine cGetRows (pc := 18) hC hin1 hl11 dX1_checksum_18 ?_
    refine gIloadN (pc := 21) hC dX1_checksum_21 rfl 0 rfl ?_
    refine cRowAld (pc := 22) hC i (rfl) (hi) dX1_checksum_22 ?_
    refine gAstore (pc := 23) hC (lv' := [(4, .ref (la L i)), (3, .int (nI i)), (1, .long c1), (0, .ref (lx L))]) dX1_checksum_23 (by decide) rfl ?_
    refine gLdc2 (pc := 25) hC (v := 31) dX1_checksum_25 (by decide +kernel) ?_
    refine gLloadN (pc := 28) hC dX1_checksum_28 rfl 2 rfl ?_
    refine gLmul (pc := 29) hC (v := (lN 31 * ckD Δ i)) dX1_checksum_29 (by rw [hI]; rfl) ?_
    refine gAload (pc := 30) hC dX1_checksum_30 0 rfl ?_
    refine cGetSize (pc := 32) hC (K := i) (v := (nI (Δ.2.1 i))) (by omega) hin0 hl47 (h0.1) dX1_checksum_32 ?_
    refine gI2l (pc := 35) hC (v := (lN (Δ.2.1 i))) dX1_checksum_35 (nI_l (by omega)) ?_
    refine gLadd (pc := 36) hC (v := (lN 31 * ckD Δ i + lN (Δ.2.1 i))) dX1_checksum_36 (rfl) ?_
    refine gLstoreN (pc := 37) hC (lv' := [(1, .long (lN 31 * ckD Δ i + lN (Δ.2.1 i))), (4, .ref (la L i)), (3, .int (nI i)), (0, .ref (lx L))]) dX1_checksum_37 rfl (by decide) rfl ?_
    refine gIconst (pc := 38) hC (v := (nI 0)) dX1_checksum_38 (by decide +kernel) ?_
    refine gIstore (pc := 39) hC (lv' := [(5, .int (nI 0)), (1, .long (lN 31 * ckD Δ i + lN (Δ.2.1 i))), (4, .ref (la L i)), (3, .int (nI i)), (0, .ref (lx L))]) dX1_checksum_39 (by decide) rfl ?_
    have hi1 := hi
    clear hi
    refine gLoc (lv' := [(5, .int (nI 0)), (1, .long (lN 31 * ckD Δ i + lN (Δ.2.1 i))), (3, .int (nI i)), (0, .ref (lx L)), (4, .ref (la L i))]) [0, 1, 3, 4, 2] rfl ?_
    refine loopUp (S := Int64) (fun j ζ => gG p l e rmX1_checksum s m args below meth c D A 6 0 0 Q (WC L σ) 41 [(5, .int (nI j)), (1, .long ζ), (3, .int (nI i)), (0, .ref (lx L)), (4, .ref (la L i))] []) (fun j ζ => ζ = ckR (Δ.2.2 i) (lN 31 * ckD Δ i + lN (Δ.2.1 i)) j) (Δ.2.1 i) ?_ ?_ 0 ((lN 31 * ckD Δ i + lN (Δ.2.1 i))) (by omega) (rfl)
    · intro ζ hJ
      revert hJ; generalize ζ = c2; intro hJ
      refine gIload (pc := 41) hC dX1_checksum_41 0 rfl ?_
      refine gAload (pc := 43) hC dX1_checksum_43 4 rfl ?_
      refine cGetSize (pc := 45) hC (K := i) (v := (nI (Δ.2.1 i))) (by omega) hin0 hl47 (h0.1) dX1_checksum_45 ?_
      refine gIcmp_ge (pc := 48) hC (tgt := 73) dX1_checksum_48 (by decide) (fun hc3 => ?_) (fun hc3 => absurd (nI_le (Nat.le_refl _) (by omega)) hc3)
      refine gIinc (pc := 73) hC (v := (nI (i + 1))) (lv' := [(3, .int (nI (i + 1))), (5, .int (nI (Δ.2.1 i))), (1, .long c2), (0, .ref (lx L)), (4, .ref (la L i))]) dX1_checksum_73 (q := 2) rfl (nI_1 _) (by decide) rfl ?_
      refine gGoto (pc := 76) hC (tgt := 12) dX1_checksum_76 (by decide) ?_
      refine gLoc (lv' := [(3, .int (nI (i + 1))), (1, .long c2), (0, .ref (lx L))]) [0, 2, 3] rfl ?_
      exact ih (c2) (by rw [hJ, ckD_s])
    · intro j ζ hj hJ jh
      revert hJ; generalize ζ = c2; intro hJ
      refine gIload (pc := 41) hC dX1_checksum_41 0 rfl ?_
      refine gAload (pc := 43) hC dX1_checksum_43 4 rfl ?_
      refine cGetSize (pc := 45) hC (K := i) (v := (nI (Δ.2.1 i))) (by omega) hin0 hl47 (h0.1) dX1_checksum_45 ?_
      refine gIcmp_ge (pc := 48) hC (tgt := 73) dX1_checksum_48 (by decide) (fun hc4 => absurd hc4 (nI_ge hj (by omega))) (fun hc4 => ?_)
      refine gLdc2 (pc := 51) hC (v := 31) dX1_checksum_51 (by decide +kernel) ?_
      refine gLloadN (pc := 54) hC dX1_checksum_54 rfl 1 rfl ?_
      refine gLmul (pc := 55) hC (v := (lN 31 * ckR (Δ.2.2 i) (lN 31 * ckD Δ i + lN (Δ.2.1 i)) j)) dX1_checksum_55 (by rw [hJ]; rfl) ?_
      refine gAload (pc := 56) hC dX1_checksum_56 4 rfl ?_
      refine cGetNums (pc := 58) hC (K := i) (by omega) hin0 hl60 dX1_checksum_58 ?_
      refine gIload (pc := 61) hC dX1_checksum_61 0 rfl ?_
      refine cNumLd (pc := 63) hC (K := i) (v := (nI ((Δ.2.2 i) j).val)) (by omega) j (rfl) (by omega) (h0.2 _ (by omega)) dX1_checksum_63 ?_
      refine gI2l (pc := 64) hC (v := (lN ((Δ.2.2 i) j).val)) dX1_checksum_64 (nI_l (by have := ((Δ.2.2 i) j).isLt; omega)) ?_
      refine gLadd (pc := 65) hC (v := (ckR (Δ.2.2 i) (lN 31 * ckD Δ i + lN (Δ.2.1 i)) (j + 1))) dX1_checksum_65 (rfl) ?_
      refine gLstoreN (pc := 66) hC (lv' := [(1, .long (ckR (Δ.2.2 i) (lN 31 * ckD Δ i + lN (Δ.2.1 i)) (j + 1))), (5, .int (nI j)), (3, .int (nI i)), (0, .ref (lx L)), (4, .ref (la L i))]) dX1_checksum_66 rfl (by decide) rfl ?_
      refine gIinc (pc := 67) hC (v := (nI (j + 1))) (lv' := [(5, .int (nI (j + 1))), (1, .long (ckR (Δ.2.2 i) (lN 31 * ckD Δ i + lN (Δ.2.1 i)) (j + 1))), (3, .int (nI i)), (0, .ref (lx L)), (4, .ref (la L i))]) dX1_checksum_67 (q := 1) rfl (nI_1 _) (by decide) rfl ?_
      refine gGoto (pc := 70) hC (tgt := 41) dX1_checksum_70 (by decide) ?_
      refine gLoc (lv' := [(5, .int (nI (j + 1))), (1, .long (ckR (Δ.2.2 i) (lN 31 * ckD Δ i + lN (Δ.2.1 i)) (j + 1))), (3, .int (nI i)), (0, .ref (lx L)), (4, .ref (la L i))]) [0, 1, 2, 3, 4] rfl ?_
      exact jh ((ckR (Δ.2.2 i) (lN 31 * ckD Δ i + lN (Δ.2.1 i)) (j + 1))) (rfl)
