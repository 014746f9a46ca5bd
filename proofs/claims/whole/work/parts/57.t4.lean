abbrev rmX2_make : Room := { frames := 2, cells := 0, slots := 0, locals := 43 }
set_option maxRecDepth 100000 in
set_option maxHeartbeats 4000000 in
theorem c_X2_make (l : Launch) (D : va_G) (L : mLay) (μ : mSt) (Δ : dSt) (x : Int32) (y : Int32) (hR : mRel μ Δ) : gM l yX2_make wsX2_make rmX2_make D (mTy L) (WM L μ) [.ref (kx L), .int x, .int y] 0 0 (fun r w => mPost L Δ (dRow Δ (rI x) (rI y) (fun _ => 0)) (kk2 (okR x) (okLI y)) (fun b => b = nI (Δ.2.1 (rI x))) r w) := by
  refine gM.of (cc := cX2_make) (maxL := 5) (ret := (some .int)) (own := RX2) (by decide) rfl rfl (Nat.le_of_ble_eq_true rfl) rfl ?_
  intro p e s m args below meth c A Q hC hr hnm hQ
  have hin2 : ∀ w ∈ u_ws RX2 TX2 6, w ∈ wsX2_make := by decide +kernel
  have hl11 : Cond.fieldLink RX2 11 "RootrowsModel" "numbers" "[[I" ∈ wsX2_make := by decide +kernel
  have hl14 : Cond.fieldLink RX2 14 "RootrowsModel" "lengths" "[I" ∈ wsX2_make := by decide +kernel
  refine gAloadN (pc := 0) hC dX2_make_0 rfl 0 rfl ?_
  refine gIloadN (pc := 1) hC dX2_make_1 rfl 1 rfl ?_
  refine gV (pc := 2) (rest := []) (ci := 2) (q0 := 0) hC (c_X2_lacks l D L μ x) rfl rfl (cwV 1 hC.2.2.2.2.1 gX2_make_X2_lacks rfl rfl rfl (by decide +kernel) ⟨Nat.le_of_ble_eq_true rfl, Nat.le_of_ble_eq_true rfl⟩) rfl rfl (Nat.le_of_ble_eq_true rfl) dX2_make_2 ⟨Nat.le_of_ble_eq_true rfl, Nat.le_of_ble_eq_true rfl⟩ (fun v w1 hp => ?_)
  obtain ⟨rfl, rfl⟩ := hp
  refine gStk (st' := [.int (bI (¬ (okR x)))]) (pc' := 5) rfl rfl ?_
  refine gIf_ne (pc := 5) hC (tgt := 20) dX2_make_5 (by decide) (fun hc1 => ?_) (fun hc1 => ?_)
  · skip
    have nok : ¬ (okR x) := bI_n.mp hc1
    refine gIconst (pc := 20) hC (v := (nI 0)) dX2_make_20 (by decide +kernel) ?_
    exact gRetI hC hQ hr (Nat.le_of_ble_eq_true rfl) (Nat.le_of_ble_eq_true rfl) dX2_make_21 (⟨_, rfl, _, rfl, by rw [kk2_1 nok]; exact thr_f nok, Or.inr ⟨kne (kk2_1 nok) ne1, hR⟩⟩)
  · skip
    have ok : okR x := nn (bI_0.mp hc1)
    refine gAloadN (pc := 8) hC dX2_make_8 rfl 0 rfl ?_
    refine gIloadN (pc := 9) hC dX2_make_9 rfl 2 rfl ?_
    refine gS (pc := 10) (rest := [.ref (kx L)]) hC (c_X2_isLength l D _ _ y) (va_cwS 1 hC.2.2.2.2.1 gX2_make_X2_isLength rfl rfl rfl (by decide +kernel) ⟨Nat.le_of_ble_eq_true rfl, Nat.le_of_ble_eq_true rfl⟩) rfl rfl (Nat.le_of_ble_eq_true rfl) dX2_make_10 ⟨Nat.le_of_ble_eq_true rfl, Nat.le_of_ble_eq_true rfl⟩ (fun v w1 hp => ?_)
    obtain ⟨rfl, rfl⟩ := hp
    refine gStk (st' := [.int (bI (okLI y)), .ref (kx L)]) (pc' := 13) rfl rfl ?_
    refine gIconst (pc := 13) hC (v := (nI 2)) dX2_make_13 (by decide +kernel) ?_
    refine gV (pc := 14) (rest := []) (ci := 2) (q0 := 0) hC (c_X2_no l D L (mTh μ (if okR x then nI 0 else nI 1)) (okLI y) (nI 2)) rfl rfl (cwV 2 hC.2.2.2.2.1 gX2_make_X2_no rfl rfl rfl (by decide +kernel) ⟨Nat.le_of_ble_eq_true rfl, Nat.le_of_ble_eq_true rfl⟩) rfl rfl (Nat.le_of_ble_eq_true rfl) dX2_make_14 ⟨Nat.le_of_ble_eq_true rfl, Nat.le_of_ble_eq_true rfl⟩ (fun v w1 hp => ?_)
    obtain ⟨rfl, rfl⟩ := hp
    refine gStk (st' := [.int (bI (¬ (okLI y)))]) (pc' := 17) rfl rfl ?_
    refine gIf_eq (pc := 17) hC (tgt := 22) dX2_make_17 (by decide) (fun hc2 => ?_) (fun hc2 => ?_)
    · skip
      have ok2 : okLI y := nn (bI_0.mp hc2)
      obtain ⟨ν3, eν3, hRν3, htν3⟩ : ∃ ζ : mSt, ζ = (mTh μ (if okLI y then nI 0 else nI 2)) ∧ mRel ζ Δ ∧ mt ζ = nI (kk2 (okR x) (okLI y)) := ⟨_, rfl, hR, (by rw [kk2_0 ok ok2]; exact thr_t ok2)⟩
      refine gWs (ws' := WM L ν3) (by first | (rw [eν3]; done) | (rw [eν3]; rfl)) ?_
      obtain ⟨hi, ei⟩ := ok.get
      have hl_ := hRν3.okl hi
      have hle := hRν3.len hi
      have hF := hRν3.is hi
      have hz := hRν3.zer hi
      have hN := hl_.N
      have hL := hN.le
      have hp := hN.pos
      have hx4 : Value.int x = Value.int (nI (rI x)) := congrArg Value.int ei
      refine gLocE (lv' := [(0, .ref (kx L)), (1, .int (nI (rI x))), (2, .int y)]) (by first | (rw [← hx4]; done) | (rw [← hx4]; rfl)) ?_
      obtain ⟨hy, ey⟩ := ok2.get
      refine gAloadN (pc := 22) hC dX2_make_22 rfl 0 rfl ?_
      refine mGetArr (pc := 23) hC 1 (a := (kl L)) (by decide) ⟨rfl, rfl, rfl⟩ hin2 hl14 dX2_make_23 ?_
      refine gIloadN (pc := 26) hC dX2_make_26 rfl 1 rfl ?_
      refine mLenLd (pc := 27) hC (v := (nI (Δ.2.1 (rI x)))) (rI x) (rfl) (hi) (hle) dX2_make_27 ?_
      refine gIstoreN (pc := 28) hC (lv' := [(3, .int (nI (Δ.2.1 (rI x)))), (0, .ref (kx L)), (1, .int (nI (rI x))), (2, .int y)]) dX2_make_28 rfl (by decide) rfl ?_
      refine gAloadN (pc := 29) hC dX2_make_29 rfl 1 rfl ?_
      refine mGetArr (pc := 30) hC 1 (a := (kl L)) (by decide) ⟨rfl, rfl, rfl⟩ hin2 hl14 dX2_make_30 ?_
      refine gIloadN (pc := 33) hC dX2_make_33 rfl 2 rfl ?_
      refine gIloadN (pc := 34) hC dX2_make_34 rfl 3 rfl ?_
      obtain ⟨ν5, eν5⟩ : ∃ ζ : mSt, ζ = mLe ν3 (upd (ml ν3) (rI x) y) := ⟨_, rfl⟩
      refine mLenSt (pc := 35) hC (rI x) (rfl) (hi) eν5 dX2_make_35 ?_
      refine gIconst (pc := 36) hC (v := (nI 0)) dX2_make_36 (by decide +kernel) ?_
      refine gIstore (pc := 37) hC (lv' := [(4, .int (nI 0)), (3, .int (nI (Δ.2.1 (rI x)))), (0, .ref (kx L)), (1, .int (nI (rI x))), (2, .int y)]) dX2_make_37 (by decide) rfl ?_
      refine gLoc (lv' := [(4, .int (nI 0)), (0, .ref (kx L)), (1, .int (nI (rI x))), (3, .int (nI (Δ.2.1 (rI x))))]) [0, 2, 3, 1] rfl ?_
      refine loopUp (S := mSt) (fun i ζ => gG p l e rmX2_make s m args below meth c D A 5 0 0 Q (WM L ζ) 39 [(4, .int (nI i)), (0, .ref (kx L)), (1, .int (nI (rI x))), (3, .int (nI (Δ.2.1 (rI x))))] []) (fun i ζ => mPut ν5 (rI x) (fun _ => 0) i ζ) 16 ?_ ?_ 0 (ν5) (by omega) (mPut.zero ν5 _ _)
      · intro ζ hI
        revert hI; generalize ζ = ν1; intro hI
        refine gIload (pc := 39) hC dX2_make_39 0 rfl ?_
        refine gBipush (pc := 41) hC (v := (nI 16)) dX2_make_41 (by decide +kernel) ?_
        refine gIcmp_ge (pc := 43) hC (tgt := 62) dX2_make_43 (by decide) (fun hc6 => ?_) (fun hc6 => absurd (nI_le (Nat.le_refl _) (by decide)) hc6)
        refine gIloadN (pc := 62) hC dX2_make_62 rfl 3 rfl ?_
        exact gRetI hC hQ hr (Nat.le_of_ble_eq_true rfl) (Nat.le_of_ble_eq_true rfl) dX2_make_63 (⟨_, rfl, _, rfl, by rw [hI.thr, eν5]; exact htν3, Or.inl ⟨(kk2_0 ok ok2), rfl, by obtain ⟨f, e, hf, -⟩ := hI; exact mRel_new hRν3 (f := f) (by rw [e, eν5, ← ey]) hy (fun j hj => hf j (by have := hy.N.le; omega)) (fun j _ h2 => hf j h2)⟩⟩)
      · intro i ζ hi9 hI ih
        revert hI; generalize ζ = ν1; intro hI
        refine gIload (pc := 39) hC dX2_make_39 0 rfl ?_
        refine gBipush (pc := 41) hC (v := (nI 16)) dX2_make_41 (by decide +kernel) ?_
        refine gIcmp_ge (pc := 43) hC (tgt := 62) dX2_make_43 (by decide) (fun hc7 => absurd hc7 (nI_ge hi9 (by decide))) (fun hc7 => ?_)
        refine gAloadN (pc := 46) hC dX2_make_46 rfl 1 rfl ?_
        refine mGetArr (pc := 47) hC 0 (a := (kn L)) (by decide) ⟨rfl, rfl, rfl⟩ hin2 hl11 dX2_make_47 ?_
        refine gIloadN (pc := 50) hC dX2_make_50 rfl 2 rfl ?_
        refine mRowAld (pc := 51) hC (rI x) (rfl) (hi) dX2_make_51 ?_
        refine gIload (pc := 52) hC dX2_make_52 0 rfl ?_
        refine gIconst (pc := 54) hC (v := (nI 0)) dX2_make_54 (by decide +kernel) ?_
        obtain ⟨ν8, eν8⟩ : ∃ ζ : mSt, ζ = mRo ν1 (rI x) (upd (mn ν1 (rI x)) i (nI 0)) := ⟨_, rfl⟩
        refine mNumSt (pc := 55) hC (K := (rI x)) (by omega) i (rfl) (by omega) eν8 dX2_make_55 ?_
        refine gIinc (pc := 56) hC (v := (nI (i + 1))) (lv' := [(4, .int (nI (i + 1))), (0, .ref (kx L)), (1, .int (nI (rI x))), (3, .int (nI (Δ.2.1 (rI x))))]) dX2_make_56 (q := 0) rfl (nI_1 _) (by decide) rfl ?_
        refine gGoto (pc := 59) hC (tgt := 39) dX2_make_59 (by decide) ?_
        refine gLoc (lv' := [(4, .int (nI (i + 1))), (0, .ref (kx L)), (1, .int (nI (rI x))), (3, .int (nI (Δ.2.1 (rI x))))]) [0, 1, 2, 3] rfl ?_
        exact ih (ν8) (hI.step eν8 rfl)
    · skip
      have nok2 : ¬ (okLI y) := bI_n.mp hc2
      refine gIconst (pc := 20) hC (v := (nI 0)) dX2_make_20 (by decide +kernel) ?_
      exact gRetI hC hQ hr (Nat.le_of_ble_eq_true rfl) (Nat.le_of_ble_eq_true rfl) dX2_make_21 (⟨_, rfl, _, rfl, by rw [kk2_2 ok nok2]; exact thr_f nok2, Or.inr ⟨kne (kk2_2 ok nok2) ne2, hR⟩⟩)

abbrev rmX2_set : Room := { frames := 2, cells := 0, slots := 0, locals := 44 }
set_option maxRecDepth 100000 in
set_option maxHeartbeats 4000000 in
theorem c_X2_set (l : Launch) (D : va_G) (L : mLay) (μ : mSt) (Δ : dSt) (x : Int32) (y : Int32) (z : Int32) (hR : mRel μ Δ) : gM l yX2_set wsX2_set rmX2_set D (mTy L) (WM L μ) [.ref (kx L), .int x, .int y, .int z] 0 0 (fun r w => mPost L Δ (dRow Δ (rI x) (Δ.2.1 (rI x)) (fun j => if j = (rI y) then nu z else (Δ.2.2 (rI x)) j)) (kk2 (okR x ∧ okP y (Δ.2.1 (rI x))) (okNum z)) (fun b => b = nI ((Δ.2.2 (rI x)) (rI y)).val) r w) := by
  refine gM.of (cc := cX2_set) (maxL := 5) (ret := (some .int)) (own := RX2) (by decide) rfl rfl (Nat.le_of_ble_eq_true rfl) rfl ?_
  intro p e s m args below meth c A Q hC hr hnm hQ
  have hin2 : ∀ w ∈ u_ws RX2 TX2 6, w ∈ wsX2_set := by decide +kernel
  have hl11 : Cond.fieldLink RX2 11 "RootrowsModel" "numbers" "[[I" ∈ wsX2_set := by decide +kernel
  refine gAloadN (pc := 0) hC dX2_set_0 rfl 0 rfl ?_
  refine gIloadN (pc := 1) hC dX2_set_1 rfl 1 rfl ?_
  refine gIloadN (pc := 2) hC dX2_set_2 rfl 2 rfl ?_
  refine gV (pc := 3) (rest := []) (ci := 2) (q0 := 0) hC (c_X2_lacksPlace l D L μ Δ x y hR) rfl rfl (cwV 2 hC.2.2.2.2.1 gX2_set_X2_lacksPlace rfl rfl rfl (by decide +kernel) ⟨Nat.le_of_ble_eq_true rfl, Nat.le_of_ble_eq_true rfl⟩) rfl rfl (Nat.le_of_ble_eq_true rfl) dX2_set_3 ⟨Nat.le_of_ble_eq_true rfl, Nat.le_of_ble_eq_true rfl⟩ (fun v w1 hp => ?_)
  obtain ⟨rfl, rfl⟩ := hp
  refine gStk (st' := [.int (bI (¬ (okR x ∧ okP y (Δ.2.1 (rI x)))))]) (pc' := 6) rfl rfl ?_
  refine gIf_ne (pc := 6) hC (tgt := 24) dX2_set_6 (by decide) (fun hc1 => ?_) (fun hc1 => ?_)
  · skip
    have nok : ¬ (okR x ∧ okP y (Δ.2.1 (rI x))) := bI_n.mp hc1
    refine gIconst (pc := 24) hC (v := (nI 0)) dX2_set_24 (by decide +kernel) ?_
    exact gRetI hC hQ hr (Nat.le_of_ble_eq_true rfl) (Nat.le_of_ble_eq_true rfl) dX2_set_25 (⟨_, rfl, _, rfl, by rw [kk2_1 nok]; exact thr_f nok, Or.inr ⟨kne (kk2_1 nok) ne1, hR⟩⟩)
  · skip
    have ok : (okR x ∧ okP y (Δ.2.1 (rI x))) := nn (bI_0.mp hc1)
    refine gAloadN (pc := 9) hC dX2_set_9 rfl 0 rfl ?_
    refine gIloadN (pc := 10) hC dX2_set_10 rfl 3 rfl ?_
    refine gIconst (pc := 11) hC (v := (nI 0)) dX2_set_11 (by decide +kernel) ?_
    refine gLdc (pc := 12) hC (v := 65536) dX2_set_12 (by decide +kernel) ?_
    refine gS (pc := 14) (rest := [.ref (kx L)]) hC (c_X2_in l D _ _ z (nI 0) (nI 65536)) (va_cwS 3 hC.2.2.2.2.1 gX2_set_X2_in rfl rfl rfl (by decide +kernel) ⟨Nat.le_of_ble_eq_true rfl, Nat.le_of_ble_eq_true rfl⟩) rfl rfl (Nat.le_of_ble_eq_true rfl) dX2_set_14 ⟨Nat.le_of_ble_eq_true rfl, Nat.le_of_ble_eq_true rfl⟩ (fun v w1 hp => ?_)
    obtain ⟨rfl, rfl⟩ := hp
    rw [bI_c m_num]
    refine gStk (st' := [.int (bI (okNum z)), .ref (kx L)]) (pc' := 17) rfl rfl ?_
    refine gIconst (pc := 17) hC (v := (nI 2)) dX2_set_17 (by decide +kernel) ?_
    refine gV (pc := 18) (rest := []) (ci := 2) (q0 := 0) hC (c_X2_no l D L (mTh μ (if (okR x ∧ okP y (Δ.2.1 (rI x))) then nI 0 else nI 1)) (okNum z) (nI 2)) rfl rfl (cwV 2 hC.2.2.2.2.1 gX2_set_X2_no rfl rfl rfl (by decide +kernel) ⟨Nat.le_of_ble_eq_true rfl, Nat.le_of_ble_eq_true rfl⟩) rfl rfl (Nat.le_of_ble_eq_true rfl) dX2_set_18 ⟨Nat.le_of_ble_eq_true rfl, Nat.le_of_ble_eq_true rfl⟩ (fun v w1 hp => ?_)
    obtain ⟨rfl, rfl⟩ := hp
    refine gStk (st' := [.int (bI (¬ (okNum z)))]) (pc' := 21) rfl rfl ?_
    refine gIf_eq (pc := 21) hC (tgt := 26) dX2_set_21 (by decide) (fun hc2 => ?_) (fun hc2 => ?_)
    · skip
      have ok2 : okNum z := nn (bI_0.mp hc2)
      obtain ⟨ν3, eν3, hRν3, htν3⟩ : ∃ ζ : mSt, ζ = (mTh μ (if okNum z then nI 0 else nI 2)) ∧ mRel ζ Δ ∧ mt ζ = nI (kk2 (okR x ∧ okP y (Δ.2.1 (rI x))) (okNum z)) := ⟨_, rfl, hR, (by rw [kk2_0 ok ok2]; exact thr_t ok2)⟩
      refine gWs (ws' := WM L ν3) (by first | (rw [eν3]; done) | (rw [eν3]; rfl)) ?_
      obtain ⟨hi, ei⟩ := ok.1.get
      have hl_ := hRν3.okl hi
      have hle := hRν3.len hi
      have hF := hRν3.is hi
      have hz := hRν3.zer hi
      have hN := hl_.N
      have hL := hN.le
      have hp := hN.pos
      have hx4 : Value.int x = Value.int (nI (rI x)) := congrArg Value.int ei
      refine gLocE (lv' := [(0, .ref (kx L)), (1, .int (nI (rI x))), (2, .int y), (3, .int z)]) (by first | (rw [← hx4]; done) | (rw [← hx4]; rfl)) ?_
      obtain ⟨hp9, ep9⟩ := ok.2.get (by omega)
      have hx5 : Value.int y = Value.int (nI (rI y)) := congrArg Value.int ep9
      refine gLocE (lv' := [(0, .ref (kx L)), (1, .int (nI (rI x))), (2, .int (nI (rI y))), (3, .int z)]) (by first | (rw [← hx5]; done) | (rw [← hx5]; rfl)) ?_
      have en := nu_val ok2
      refine gAloadN (pc := 26) hC dX2_set_26 rfl 0 rfl ?_
      refine mGetArr (pc := 27) hC 0 (a := (kn L)) (by decide) ⟨rfl, rfl, rfl⟩ hin2 hl11 dX2_set_27 ?_
      refine gIloadN (pc := 30) hC dX2_set_30 rfl 1 rfl ?_
      refine mRowAld (pc := 31) hC (rI x) (rfl) (hi) dX2_set_31 ?_
      refine gIloadN (pc := 32) hC dX2_set_32 rfl 2 rfl ?_
      refine mNumLd (pc := 33) hC (K := (rI x)) (v := (nI ((Δ.2.2 (rI x)) (rI y)).val)) (by omega) (rI y) (rfl) (by omega) (hF _ (by omega)) dX2_set_33 ?_
      refine gIstore (pc := 34) hC (lv' := [(4, .int (nI ((Δ.2.2 (rI x)) (rI y)).val)), (0, .ref (kx L)), (1, .int (nI (rI x))), (2, .int (nI (rI y))), (3, .int z)]) dX2_set_34 (by decide) rfl ?_
      refine gAloadN (pc := 36) hC dX2_set_36 rfl 1 rfl ?_
      refine mGetArr (pc := 37) hC 0 (a := (kn L)) (by decide) ⟨rfl, rfl, rfl⟩ hin2 hl11 dX2_set_37 ?_
      refine gIloadN (pc := 40) hC dX2_set_40 rfl 2 rfl ?_
      refine mRowAld (pc := 41) hC (rI x) (rfl) (hi) dX2_set_41 ?_
      refine gIloadN (pc := 42) hC dX2_set_42 rfl 3 rfl ?_
      refine gIloadN (pc := 43) hC dX2_set_43 rfl 4 rfl ?_
      obtain ⟨ν6, eν6⟩ : ∃ ζ : mSt, ζ = mRo ν3 (rI x) (upd (mn ν3 (rI x)) (rI y) z) := ⟨_, rfl⟩
      refine mNumSt (pc := 44) hC (K := (rI x)) (by omega) (rI y) (rfl) (by omega) eν6 dX2_set_44 ?_
      refine gIload (pc := 45) hC dX2_set_45 0 rfl ?_
      exact gRetI hC hQ hr (Nat.le_of_ble_eq_true rfl) (Nat.le_of_ble_eq_true rfl) dX2_set_47 (⟨_, rfl, _, rfl, by rw [eν6]; exact htν3, Or.inl ⟨(kk2_0 ok ok2), rfl, mRel_upd hRν3 hi eν6 (fun j hj => by show _ = nI (if j = rI y then nu z else (Δ.2.2 (rI x)) j).val; by_cases q : j = rI y; (subst q; rw [upd_at, if_pos rfl]; exact en); (rw [upd_ne _ _ q, if_neg q]; exact hF j hj)) (fun j hj => upd_ne _ _ (by omega))⟩⟩)
    · skip
      have nok2 : ¬ (okNum z) := bI_n.mp hc2
      refine gIconst (pc := 24) hC (v := (nI 0)) dX2_set_24 (by decide +kernel) ?_
      exact gRetI hC hQ hr (Nat.le_of_ble_eq_true rfl) (Nat.le_of_ble_eq_true rfl) dX2_set_25 (⟨_, rfl, _, rfl, by rw [kk2_2 ok nok2]; exact thr_f nok2, Or.inr ⟨kne (kk2_2 ok nok2) ne2, hR⟩⟩)

abbrev rmX2_fill : Room := { frames := 1, cells := 0, slots := 0, locals := 22 }
set_option maxRecDepth 100000 in
set_option maxHeartbeats 4000000 in
theorem c_X2_fill (l : Launch) (D : va_G) (L : mLay) (μ : mSt) (Δ : dSt) (x : Int32) (y : Int32) (z : Int32) (hR : mRel μ Δ) : gM l yX2_fill wsX2_fill rmX2_fill D (mTy L) (WM L μ) [.ref (kx L), .int x, .int y, .int z] 0 0 (fun r w => mPost L Δ (dRow Δ (rI x) (Δ.2.1 (rI x)) (fun j => if rI y ≤ j then nu z else (Δ.2.2 (rI x)) j)) (kk2 (okR x ∧ ¬ y < 0 ∧ ¬ nI (Δ.2.1 (rI x)) < y) (okNum z)) (fun b => b = nI (cd (Δ.2.2 (rI x)) (fun j => if rI y ≤ j then nu z else (Δ.2.2 (rI x)) j) (Δ.2.1 (rI x)))) r w) := by
  refine gM.of (cc := cX2_fill) (maxL := 6) (ret := (some .int)) (own := RX2) (by decide) rfl rfl (Nat.le_of_ble_eq_true rfl) rfl ?_
  intro p e s m args below meth c A Q hC hr hnm hQ
  have hin2 : ∀ w ∈ u_ws RX2 TX2 6, w ∈ wsX2_fill := by decide +kernel
  have hl11 : Cond.fieldLink RX2 11 "RootrowsModel" "numbers" "[[I" ∈ wsX2_fill := by decide +kernel
  have hl14 : Cond.fieldLink RX2 14 "RootrowsModel" "lengths" "[I" ∈ wsX2_fill := by decide +kernel
  refine gAloadN (pc := 0) hC dX2_fill_0 rfl 0 rfl ?_
  refine gIloadN (pc := 1) hC dX2_fill_1 rfl 1 rfl ?_
  refine gIconst (pc := 2) hC (v := (nI 0)) dX2_fill_2 (by decide +kernel) ?_
  refine gIconst (pc := 3) hC (v := (nI 3)) dX2_fill_3 (by decide +kernel) ?_
  refine gS (pc := 4) (rest := [.ref (kx L)]) hC (c_X2_in l D _ _ x (nI 0) (nI 3)) (va_cwS 3 hC.2.2.2.2.1 gX2_fill_X2_in rfl rfl rfl (by decide +kernel) ⟨Nat.le_of_ble_eq_true rfl, Nat.le_of_ble_eq_true rfl⟩) rfl rfl (Nat.le_of_ble_eq_true rfl) dX2_fill_4 ⟨Nat.le_of_ble_eq_true rfl, Nat.le_of_ble_eq_true rfl⟩ (fun v w1 hp => ?_)
  obtain ⟨rfl, rfl⟩ := hp
  rw [bI_c m_row]
  refine gStk (st' := [.int (bI (okR x)), .ref (kx L)]) (pc' := 7) rfl rfl ?_
  refine gIf_eq (pc := 7) hC (tgt := 28) dX2_fill_7 (by decide) (fun hc1 => ?_) (fun hc1 => ?_)
  · skip
    refine gIconst (pc := 28) hC (v := (nI 0)) dX2_fill_28 (by decide +kernel) ?_
    refine gStk (st' := [.int (bI (okR x ∧ ¬ y < 0 ∧ ¬ nI (Δ.2.1 (rI x)) < y)), .ref (kx L)]) (pc' := 29) (by rw [bI_f (fun q => bI_0.mp hc1 q.1)]) rfl ?_
    refine gIconst (pc := 29) hC (v := (nI 1)) dX2_fill_29 (by decide +kernel) ?_
    refine gV (pc := 30) (rest := []) (ci := 2) (q0 := 0) hC (c_X2_no l D L μ (okR x ∧ ¬ y < 0 ∧ ¬ nI (Δ.2.1 (rI x)) < y) (nI 1)) rfl rfl (cwV 2 hC.2.2.2.2.1 gX2_fill_X2_no rfl rfl rfl (by decide +kernel) ⟨Nat.le_of_ble_eq_true rfl, Nat.le_of_ble_eq_true rfl⟩) rfl rfl (Nat.le_of_ble_eq_true rfl) dX2_fill_30 ⟨Nat.le_of_ble_eq_true rfl, Nat.le_of_ble_eq_true rfl⟩ (fun v w1 hp => ?_)
    obtain ⟨rfl, rfl⟩ := hp
    refine gStk (st' := [.int (bI (¬ (okR x ∧ ¬ y < 0 ∧ ¬ nI (Δ.2.1 (rI x)) < y)))]) (pc' := 33) rfl rfl ?_
    refine gIf_ne (pc := 33) hC (tgt := 51) dX2_fill_33 (by decide) (fun hc2 => ?_) (fun hc2 => ?_)
    · skip
      have nok : ¬ (okR x ∧ ¬ y < 0 ∧ ¬ nI (Δ.2.1 (rI x)) < y) := bI_n.mp hc2
      refine gIconst (pc := 51) hC (v := (nI 0)) dX2_fill_51 (by decide +kernel) ?_
      exact gRetI hC hQ hr (Nat.le_of_ble_eq_true rfl) (Nat.le_of_ble_eq_true rfl) dX2_fill_52 (⟨_, rfl, _, rfl, by rw [kk2_1 nok]; exact thr_f nok, Or.inr ⟨kne (kk2_1 nok) ne1, hR⟩⟩)
    · skip
      have ok : (okR x ∧ ¬ y < 0 ∧ ¬ nI (Δ.2.1 (rI x)) < y) := nn (bI_0.mp hc2)
      refine gAloadN (pc := 36) hC dX2_fill_36 rfl 0 rfl ?_
      refine gIloadN (pc := 37) hC dX2_fill_37 rfl 3 rfl ?_
      refine gIconst (pc := 38) hC (v := (nI 0)) dX2_fill_38 (by decide +kernel) ?_
      refine gLdc (pc := 39) hC (v := 65536) dX2_fill_39 (by decide +kernel) ?_
      refine gS (pc := 41) (rest := [.ref (kx L)]) hC (c_X2_in l D _ _ z (nI 0) (nI 65536)) (va_cwS 3 hC.2.2.2.2.1 gX2_fill_X2_in rfl rfl rfl (by decide +kernel) ⟨Nat.le_of_ble_eq_true rfl, Nat.le_of_ble_eq_true rfl⟩) rfl rfl (Nat.le_of_ble_eq_true rfl) dX2_fill_41 ⟨Nat.le_of_ble_eq_true rfl, Nat.le_of_ble_eq_true rfl⟩ (fun v w1 hp => ?_)
      obtain ⟨rfl, rfl⟩ := hp
      rw [bI_c m_num]
      refine gStk (st' := [.int (bI (okNum z)), .ref (kx L)]) (pc' := 44) rfl rfl ?_
      refine gIconst (pc := 44) hC (v := (nI 2)) dX2_fill_44 (by decide +kernel) ?_
      refine gV (pc := 45) (rest := []) (ci := 2) (q0 := 0) hC (c_X2_no l D L (mTh μ (if (okR x ∧ ¬ y < 0 ∧ ¬ nI (Δ.2.1 (rI x)) < y) then nI 0 else nI 1)) (okNum z) (nI 2)) rfl rfl (cwV 2 hC.2.2.2.2.1 gX2_fill_X2_no rfl rfl rfl (by decide +kernel) ⟨Nat.le_of_ble_eq_true rfl, Nat.le_of_ble_eq_true rfl⟩) rfl rfl (Nat.le_of_ble_eq_true rfl) dX2_fill_45 ⟨Nat.le_of_ble_eq_true rfl, Nat.le_of_ble_eq_true rfl⟩ (fun v w1 hp => ?_)
      obtain ⟨rfl, rfl⟩ := hp
      refine gStk (st' := [.int (bI (¬ okNum z))]) (pc' := 48) rfl rfl ?_
      refine gIf_eq (pc := 48) hC (tgt := 53) dX2_fill_48 (by decide) (fun hc3 => ?_) (fun hc3 => ?_)
      · skip
        have ok2 : okNum z := nn (bI_0.mp hc3)
        obtain ⟨ν4, eν4, hRν4, htν4⟩ : ∃ ζ : mSt, ζ = (mTh μ (if okNum z then nI 0 else nI 2)) ∧ mRel ζ Δ ∧ mt ζ = nI (kk2 (okR x ∧ ¬ y < 0 ∧ ¬ nI (Δ.2.1 (rI x)) < y) (okNum z)) := ⟨_, rfl, hR, (by rw [kk2_0 ok ok2]; exact thr_t ok2)⟩
        refine gWs (ws' := WM L ν4) (by first | (rw [eν4]; done) | (rw [eν4]; rfl)) ?_
        obtain ⟨hi, ei⟩ := ok.1.get
        have hl_ := hRν4.okl hi
        have hle := hRν4.len hi
        have hF := hRν4.is hi
        have hz := hRν4.zer hi
        have hN := hl_.N
        have hL := hN.le
        have hp := hN.pos
        have hx5 : Value.int x = Value.int (nI (rI x)) := congrArg Value.int ei
        refine gLocE (lv' := [(0, .ref (kx L)), (1, .int (nI (rI x))), (2, .int y), (3, .int z)]) (by first | (rw [← hx5]; done) | (rw [← hx5]; rfl)) ?_
        have en := nu_val ok2
        obtain ⟨p0, hp9, ep9⟩ := nI_of2 (M := nI (Δ.2.1 (rI x))) (n := (Δ.2.1 (rI x))) (nI_toInt (by omega)) ok.2.1 (Int32.not_lt.mp ok.2.2)
        have epI : rI y = p0 := by rw [ep9]; exact rI_nI (by omega)
        refine gIconst (pc := 53) hC (v := (nI 0)) dX2_fill_53 (by decide +kernel) ?_
        refine gIstore (pc := 54) hC (lv' := [(4, .int (nI 0)), (0, .ref (kx L)), (1, .int (nI (rI x))), (2, .int y), (3, .int z)]) dX2_fill_54 (by decide) rfl ?_
        refine gIloadN (pc := 56) hC dX2_fill_56 rfl 3 rfl ?_
        have hx9 : Value.int y = Value.int (nI p0) := congrArg Value.int ep9
        refine gLocE (lv' := [(4, .int (nI 0)), (0, .ref (kx L)), (1, .int (nI (rI x))), (2, .int (nI p0)), (3, .int z)]) (by first | (rw [← hx9]; done) | (rw [← hx9]; rfl)) ?_
        refine gStk (st' := [.int (nI p0)]) (pc' := 57) (by first | (rw [← hx9]; done) | (rw [← hx9]; rfl)) rfl ?_
        refine gIstore (pc := 57) hC (lv' := [(5, .int (nI p0)), (4, .int (nI 0)), (0, .ref (kx L)), (1, .int (nI (rI x))), (2, .int (nI p0)), (3, .int z)]) dX2_fill_57 (by decide) rfl ?_
        refine gLoc (lv' := [(5, .int (nI p0)), (4, .int (nI 0)), (0, .ref (kx L)), (1, .int (nI (rI x))), (3, .int z)]) [0, 1, 2, 3, 5] rfl ?_
        refine loopUp (S := (mSt × Int32)) (fun i ζ => gG p l e rmX2_fill s m args below meth c D A 6 0 0 Q (WM L ζ.1) 59 [(5, .int (nI i)), (4, .int (ζ.2)), (0, .ref (kx L)), (1, .int (nI (rI x))), (3, .int z)] []) (fun i ζ => p0 ≤ i ∧ (∃ f, ζ.1 = mRo ν4 (rI x) f ∧ (∀ j, j < (Δ.2.1 (rI x)) → f j = if p0 ≤ j ∧ j < i then nI (nu z).val else nI ((Δ.2.2 (rI x)) j).val) ∧ ∀ j, (Δ.2.1 (rI x)) ≤ j → f j = mn ν4 (rI x) j) ∧ ζ.2 = nI (cd (Δ.2.2 (rI x)) (fun j => if rI y ≤ j then nu z else (Δ.2.2 (rI x)) j) i)) (Δ.2.1 (rI x)) ?_ ?_ p0 (ν4, (nI 0)) (by omega) (⟨Nat.le_refl _, ⟨mn ν4 (rI x), (mRo_self _ _).symm, fun j hj => by rw [if_neg (by omega)]; exact hF j hj, fun _ _ => rfl⟩, by rw [cd_same (fun j hj => by show _ = (if rI y ≤ j then nu z else (Δ.2.2 (rI x)) j); rw [if_neg (by omega)])]⟩)
        · intro ζ hI
          obtain ⟨ν1, c1⟩ := ζ
          try dsimp only at hI ⊢
          refine gIload (pc := 59) hC dX2_fill_59 0 rfl ?_
          refine gAloadN (pc := 61) hC dX2_fill_61 rfl 2 rfl ?_
          refine mGetArr (pc := 62) hC 1 (a := (kl L)) (by decide) ⟨rfl, rfl, rfl⟩ hin2 hl14 dX2_fill_62 ?_
          refine gIloadN (pc := 65) hC dX2_fill_65 rfl 3 rfl ?_
          refine mLenLd (pc := 66) hC (v := (nI (Δ.2.1 (rI x)))) (rI x) (rfl) (hi) (by obtain ⟨-, ⟨f, e, -⟩, -⟩ := hI; rw [e]; exact hle) dX2_fill_66 ?_
          refine gIcmp_ge (pc := 67) hC (tgt := 109) dX2_fill_67 (by decide) (fun hc6 => ?_) (fun hc6 => absurd (nI_le (Nat.le_refl _) (by omega)) hc6)
          refine gIload (pc := 109) hC dX2_fill_109 1 rfl ?_
          exact gRetI hC hQ hr (Nat.le_of_ble_eq_true rfl) (Nat.le_of_ble_eq_true rfl) dX2_fill_111 (⟨_, rfl, _, rfl, by obtain ⟨-, ⟨f, e, -⟩, -⟩ := hI; rw [e]; exact htν4, Or.inl ⟨(kk2_0 ok ok2), hI.2.2, by obtain ⟨-, ⟨f, e, hf, hg⟩, -⟩ := hI; exact mRel_upd hRν4 hi e (fun j hj => by rw [hf j hj]; show _ = nI (if rI y ≤ j then nu z else (Δ.2.2 (rI x)) j).val; rw [epI]; by_cases q : p0 ≤ j; (rw [if_pos ⟨q, hj⟩, if_pos q]); rw [if_neg (fun c => q c.1), if_neg q]) hg⟩⟩)
        · intro i ζ hi9 hI ih
          obtain ⟨ν1, c1⟩ := ζ
          try dsimp only at hI ih ⊢
          obtain ⟨hpi, ⟨f, e9, hf, hg⟩, hc9⟩ := hI
          refine gIload (pc := 59) hC dX2_fill_59 0 rfl ?_
          refine gAloadN (pc := 61) hC dX2_fill_61 rfl 2 rfl ?_
          refine mGetArr (pc := 62) hC 1 (a := (kl L)) (by decide) ⟨rfl, rfl, rfl⟩ hin2 hl14 dX2_fill_62 ?_
          refine gIloadN (pc := 65) hC dX2_fill_65 rfl 3 rfl ?_
          refine mLenLd (pc := 66) hC (v := (nI (Δ.2.1 (rI x)))) (rI x) (rfl) (hi) (by rw [e9]; exact hle) dX2_fill_66 ?_
          refine gIcmp_ge (pc := 67) hC (tgt := 109) dX2_fill_67 (by decide) (fun hc7 => absurd hc7 (nI_ge hi9 (by omega))) (fun hc7 => ?_)
          refine gIload (pc := 70) hC dX2_fill_70 1 rfl ?_
          refine gAloadN (pc := 72) hC dX2_fill_72 rfl 2 rfl ?_
          refine mGetArr (pc := 73) hC 0 (a := (kn L)) (by decide) ⟨rfl, rfl, rfl⟩ hin2 hl11 dX2_fill_73 ?_
          refine gIloadN (pc := 76) hC dX2_fill_76 rfl 3 rfl ?_
          refine mRowAld (pc := 77) hC (rI x) (rfl) (hi) dX2_fill_77 ?_
          refine gIload (pc := 78) hC dX2_fill_78 0 rfl ?_
          refine mNumLd (pc := 80) hC (K := (rI x)) (v := (nI ((Δ.2.2 (rI x)) i).val)) (by omega) i (rfl) (by omega) (by rw [e9, mn_ro, hf i hi9, if_neg (by omega)]) dX2_fill_80 ?_
          refine gIloadN (pc := 81) hC dX2_fill_81 rfl 4 rfl ?_
          refine gIcmp_ne (pc := 82) hC (tgt := 89) dX2_fill_82 (by decide) (fun hc8 => ?_) (fun hc8 => ?_)
          · skip
            have hFR : (fun j => if rI y ≤ j then nu z else (Δ.2.2 (rI x)) j) i = nu z := by show (if rI y ≤ i then nu z else (Δ.2.2 (rI x)) i) = nu z; rw [if_pos (by omega)]
            refine gIconst (pc := 89) hC (v := (nI 1)) dX2_fill_89 (by decide +kernel) ?_
            refine gIadd (pc := 90) hC (v := (nI (cd (Δ.2.2 (rI x)) (fun j => if rI y ≤ j then nu z else (Δ.2.2 (rI x)) j) (i + 1)))) dX2_fill_90 (by rw [hc9, cd_s, if_neg (fun h => hc8 (by rw [h]; exact (congrArg (fun q : Rg => nI q.val) hFR).trans en.symm))]; exact nI_add _ 1) ?_
            refine gIstore (pc := 91) hC (lv' := [(4, .int (nI (cd (Δ.2.2 (rI x)) (fun j => if rI y ≤ j then nu z else (Δ.2.2 (rI x)) j) (i + 1)))), (5, .int (nI i)), (0, .ref (kx L)), (1, .int (nI (rI x))), (3, .int z)]) dX2_fill_91 (by decide) rfl ?_
            refine gAloadN (pc := 93) hC dX2_fill_93 rfl 2 rfl ?_
            refine mGetArr (pc := 94) hC 0 (a := (kn L)) (by decide) ⟨rfl, rfl, rfl⟩ hin2 hl11 dX2_fill_94 ?_
            refine gIloadN (pc := 97) hC dX2_fill_97 rfl 3 rfl ?_
            refine mRowAld (pc := 98) hC (rI x) (rfl) (hi) dX2_fill_98 ?_
            refine gIload (pc := 99) hC dX2_fill_99 1 rfl ?_
            refine gIloadN (pc := 101) hC dX2_fill_101 rfl 4 rfl ?_
            obtain ⟨ν9, eν9⟩ : ∃ ζ : mSt, ζ = mRo ν1 (rI x) (upd (mn ν1 (rI x)) i z) := ⟨_, rfl⟩
            refine mNumSt (pc := 102) hC (K := (rI x)) (by omega) i (rfl) (by omega) eν9 dX2_fill_102 ?_
            refine gIinc (pc := 103) hC (v := (nI (i + 1))) (lv' := [(5, .int (nI (i + 1))), (4, .int (nI (cd (Δ.2.2 (rI x)) (fun j => if rI y ≤ j then nu z else (Δ.2.2 (rI x)) j) (i + 1)))), (0, .ref (kx L)), (1, .int (nI (rI x))), (3, .int z)]) dX2_fill_103 (q := 1) rfl (nI_1 _) (by decide) rfl ?_
            refine gGoto (pc := 106) hC (tgt := 59) dX2_fill_106 (by decide) ?_
            refine gLoc (lv' := [(5, .int (nI (i + 1))), (4, .int (nI (cd (Δ.2.2 (rI x)) (fun j => if rI y ≤ j then nu z else (Δ.2.2 (rI x)) j) (i + 1)))), (0, .ref (kx L)), (1, .int (nI (rI x))), (3, .int z)]) [0, 1, 2, 3, 4] rfl ?_
            exact ih (ν9, (nI (cd (Δ.2.2 (rI x)) (fun j => if rI y ≤ j then nu z else (Δ.2.2 (rI x)) j) (i + 1)))) (⟨by omega, ⟨upd f i z, by rw [eν9, e9, mn_ro, mRo_twice], fun j hj => by by_cases q : j = i; (subst q; rw [upd_at, if_pos ⟨hpi, by omega⟩]; exact en); (rw [upd_ne _ _ q, hf j hj]; by_cases c1 : p0 ≤ j ∧ j < i; (rw [if_pos c1, if_pos ⟨c1.1, by omega⟩]); rw [if_neg c1, if_neg (by omega)]), fun j hj => by rw [upd_ne _ _ (by omega)]; exact hg j hj⟩, rfl⟩)
          · skip
            have hFR : (fun j => if rI y ≤ j then nu z else (Δ.2.2 (rI x)) j) i = nu z := by show (if rI y ≤ i then nu z else (Δ.2.2 (rI x)) i) = nu z; rw [if_pos (by omega)]
            refine gIconst (pc := 85) hC (v := (nI 0)) dX2_fill_85 (by decide +kernel) ?_
            refine gGoto (pc := 86) hC (tgt := 90) dX2_fill_86 (by decide) ?_
            refine gIadd (pc := 90) hC (v := (nI (cd (Δ.2.2 (rI x)) (fun j => if rI y ≤ j then nu z else (Δ.2.2 (rI x)) j) (i + 1)))) dX2_fill_90 (by rw [hc9, cd_s, if_pos ((val_ne.mp (hc8.trans en)).trans hFR.symm)]; exact nI_add _ 0) ?_
            refine gIstore (pc := 91) hC (lv' := [(4, .int (nI (cd (Δ.2.2 (rI x)) (fun j => if rI y ≤ j then nu z else (Δ.2.2 (rI x)) j) (i + 1)))), (5, .int (nI i)), (0, .ref (kx L)), (1, .int (nI (rI x))), (3, .int z)]) dX2_fill_91 (by decide) rfl ?_
            refine gAloadN (pc := 93) hC dX2_fill_93 rfl 2 rfl ?_
            refine mGetArr (pc := 94) hC 0 (a := (kn L)) (by decide) ⟨rfl, rfl, rfl⟩ hin2 hl11 dX2_fill_94 ?_
            refine gIloadN (pc := 97) hC dX2_fill_97 rfl 3 rfl ?_
            refine mRowAld (pc := 98) hC (rI x) (rfl) (hi) dX2_fill_98 ?_
            refine gIload (pc := 99) hC dX2_fill_99 1 rfl ?_
            refine gIloadN (pc := 101) hC dX2_fill_101 rfl 4 rfl ?_
            obtain ⟨ν10, eν10⟩ : ∃ ζ : mSt, ζ = mRo ν1 (rI x) (upd (mn ν1 (rI x)) i z) := ⟨_, rfl⟩
            refine mNumSt (pc := 102) hC (K := (rI x)) (by omega) i (rfl) (by omega) eν10 dX2_fill_102 ?_
            refine gIinc (pc := 103) hC (v := (nI (i + 1))) (lv' := [(5, .int (nI (i + 1))), (4, .int (nI (cd (Δ.2.2 (rI x)) (fun j => if rI y ≤ j then nu z else (Δ.2.2 (rI x)) j) (i + 1)))), (0, .ref (kx L)), (1, .int (nI (rI x))), (3, .int z)]) dX2_fill_103 (q := 1) rfl (nI_1 _) (by decide) rfl ?_
            refine gGoto (pc := 106) hC (tgt := 59) dX2_fill_106 (by decide) ?_
            refine gLoc (lv' := [(5, .int (nI (i + 1))), (4, .int (nI (cd (Δ.2.2 (rI x)) (fun j => if rI y ≤ j then nu z else (Δ.2.2 (rI x)) j) (i + 1)))), (0, .ref (kx L)), (1, .int (nI (rI x))), (3, .int z)]) [0, 1, 2, 3, 4] rfl ?_
            exact ih (ν10, (nI (cd (Δ.2.2 (rI x)) (fun j => if rI y ≤ j then nu z else (Δ.2.2 (rI x)) j) (i + 1)))) (⟨by omega, ⟨upd f i z, by rw [eν10, e9, mn_ro, mRo_twice], fun j hj => by by_cases q : j = i; (subst q; rw [upd_at, if_pos ⟨hpi, by omega⟩]; exact en); (rw [upd_ne _ _ q, hf j hj]; by_cases c1 : p0 ≤ j ∧ j < i; (rw [if_pos c1, if_pos ⟨c1.1, by omega⟩]); rw [if_neg c1, if_neg (by omega)]), fun j hj => by rw [upd_ne _ _ (by omega)]; exact hg j hj⟩, rfl⟩)
      · skip
        have nok2 : ¬ (okNum z) := bI_n.mp hc3
        refine gIconst (pc := 51) hC (v := (nI 0)) dX2_fill_51 (by decide +kernel) ?_
        exact gRetI hC hQ hr (Nat.le_of_ble_eq_true rfl) (Nat.le_of_ble_eq_true rfl) dX2_fill_52 (⟨_, rfl, _, rfl, by rw [kk2_2 ok nok2]; exact thr_f nok2, Or.inr ⟨kne (kk2_2 ok nok2) ne2, hR⟩⟩)
  · skip
    have hr0 := bI_n.mp hc1
    obtain ⟨hi, ei⟩ := hr0.get
    have hle := hR.len hi
    refine gIloadN (pc := 10) hC dX2_fill_10 rfl 2 rfl ?_
    refine gIconst (pc := 11) hC (v := (nI 0)) dX2_fill_11 (by decide +kernel) ?_
    refine gAloadN (pc := 12) hC dX2_fill_12 rfl 0 rfl ?_
    refine mGetArr (pc := 13) hC 1 (a := (kl L)) (by decide) ⟨rfl, rfl, rfl⟩ hin2 hl14 dX2_fill_13 ?_
    refine gIloadN (pc := 16) hC dX2_fill_16 rfl 1 rfl ?_
    refine mLenLd (pc := 17) hC (v := (nI (Δ.2.1 (rI x)))) (rI x) (ei) (hi) (hle) dX2_fill_17 ?_
    refine gS (pc := 18) (rest := [.ref (kx L)]) hC (c_X2_in l D _ _ y (nI 0) (nI (Δ.2.1 (rI x)))) (va_cwS 3 hC.2.2.2.2.1 gX2_fill_X2_in rfl rfl rfl (by decide +kernel) ⟨Nat.le_of_ble_eq_true rfl, Nat.le_of_ble_eq_true rfl⟩) rfl rfl (Nat.le_of_ble_eq_true rfl) dX2_fill_18 ⟨Nat.le_of_ble_eq_true rfl, Nat.le_of_ble_eq_true rfl⟩ (fun v w1 hp => ?_)
    obtain ⟨rfl, rfl⟩ := hp
    refine gStk (st' := [.int (bI (¬ y < nI 0 ∧ ¬ nI (Δ.2.1 (rI x)) < y)), .ref (kx L)]) (pc' := 21) rfl rfl ?_
    refine gIf_eq (pc := 21) hC (tgt := 28) dX2_fill_21 (by decide) (fun hc11 => ?_) (fun hc11 => ?_)
    · skip
      refine gIconst (pc := 28) hC (v := (nI 0)) dX2_fill_28 (by decide +kernel) ?_
      refine gStk (st' := [.int (bI (okR x ∧ ¬ y < 0 ∧ ¬ nI (Δ.2.1 (rI x)) < y)), .ref (kx L)]) (pc' := 29) (by rw [bI_f (fun q => bI_0.mp hc11 q.2)]) rfl ?_
      refine gIconst (pc := 29) hC (v := (nI 1)) dX2_fill_29 (by decide +kernel) ?_
      refine gV (pc := 30) (rest := []) (ci := 2) (q0 := 0) hC (c_X2_no l D L μ (okR x ∧ ¬ y < 0 ∧ ¬ nI (Δ.2.1 (rI x)) < y) (nI 1)) rfl rfl (cwV 2 hC.2.2.2.2.1 gX2_fill_X2_no rfl rfl rfl (by decide +kernel) ⟨Nat.le_of_ble_eq_true rfl, Nat.le_of_ble_eq_true rfl⟩) rfl rfl (Nat.le_of_ble_eq_true rfl) dX2_fill_30 ⟨Nat.le_of_ble_eq_true rfl, Nat.le_of_ble_eq_true rfl⟩ (fun v w1 hp => ?_)
      obtain ⟨rfl, rfl⟩ := hp
      refine gStk (st' := [.int (bI (¬ (okR x ∧ ¬ y < 0 ∧ ¬ nI (Δ.2.1 (rI x)) < y)))]) (pc' := 33) rfl rfl ?_
      refine gIf_ne (pc := 33) hC (tgt := 51) dX2_fill_33 (by decide) (fun hc12 => ?_) (fun hc12 => ?_)
      · skip
        have nok : ¬ (okR x ∧ ¬ y < 0 ∧ ¬ nI (Δ.2.1 (rI x)) < y) := bI_n.mp hc12
        refine gIconst (pc := 51) hC (v := (nI 0)) dX2_fill_51 (by decide +kernel) ?_
        exact gRetI hC hQ hr (Nat.le_of_ble_eq_true rfl) (Nat.le_of_ble_eq_true rfl) dX2_fill_52 (⟨_, rfl, _, rfl, by rw [kk2_1 nok]; exact thr_f nok, Or.inr ⟨kne (kk2_1 nok) ne1, hR⟩⟩)
      · skip
        have ok : (okR x ∧ ¬ y < 0 ∧ ¬ nI (Δ.2.1 (rI x)) < y) := nn (bI_0.mp hc12)
        refine gAloadN (pc := 36) hC dX2_fill_36 rfl 0 rfl ?_
        refine gIloadN (pc := 37) hC dX2_fill_37 rfl 3 rfl ?_
        refine gIconst (pc := 38) hC (v := (nI 0)) dX2_fill_38 (by decide +kernel) ?_
        refine gLdc (pc := 39) hC (v := 65536) dX2_fill_39 (by decide +kernel) ?_
        refine gS (pc := 41) (rest := [.ref (kx L)]) hC (c_X2_in l D _ _ z (nI 0) (nI 65536)) (va_cwS 3 hC.2.2.2.2.1 gX2_fill_X2_in rfl rfl rfl (by decide +kernel) ⟨Nat.le_of_ble_eq_true rfl, Nat.le_of_ble_eq_true rfl⟩) rfl rfl (Nat.le_of_ble_eq_true rfl) dX2_fill_41 ⟨Nat.le_of_ble_eq_true rfl, Nat.le_of_ble_eq_true rfl⟩ (fun v w1 hp => ?_)
        obtain ⟨rfl, rfl⟩ := hp
        rw [bI_c m_num]
        refine gStk (st' := [.int (bI (okNum z)), .ref (kx L)]) (pc' := 44) rfl rfl ?_
        refine gIconst (pc := 44) hC (v := (nI 2)) dX2_fill_44 (by decide +kernel) ?_
        refine gV (pc := 45) (rest := []) (ci := 2) (q0 := 0) hC (c_X2_no l D L (mTh μ (if (okR x ∧ ¬ y < 0 ∧ ¬ nI (Δ.2.1 (rI x)) < y) then nI 0 else nI 1)) (okNum z) (nI 2)) rfl rfl (cwV 2 hC.2.2.2.2.1 gX2_fill_X2_no rfl rfl rfl (by decide +kernel) ⟨Nat.le_of_ble_eq_true rfl, Nat.le_of_ble_eq_true rfl⟩) rfl rfl (Nat.le_of_ble_eq_true rfl) dX2_fill_45 ⟨Nat.le_of_ble_eq_true rfl, Nat.le_of_ble_eq_true rfl⟩ (fun v w1 hp => ?_)
        obtain ⟨rfl, rfl⟩ := hp
        refine gStk (st' := [.int (bI (¬ okNum z))]) (pc' := 48) rfl rfl ?_
        refine gIf_eq (pc := 48) hC (tgt := 53) dX2_fill_48 (by decide) (fun hc13 => ?_) (fun hc13 => ?_)
        · skip
          have ok2 : okNum z := nn (bI_0.mp hc13)
          obtain ⟨ν14, eν14, hRν14, htν14⟩ : ∃ ζ : mSt, ζ = (mTh μ (if okNum z then nI 0 else nI 2)) ∧ mRel ζ Δ ∧ mt ζ = nI (kk2 (okR x ∧ ¬ y < 0 ∧ ¬ nI (Δ.2.1 (rI x)) < y) (okNum z)) := ⟨_, rfl, hR, (by rw [kk2_0 ok ok2]; exact thr_t ok2)⟩
          refine gWs (ws' := WM L ν14) (by first | (rw [eν14]; done) | (rw [eν14]; rfl)) ?_
          obtain ⟨hi, ei⟩ := ok.1.get
          have hl_ := hRν14.okl hi
          have hle := hRν14.len hi
          have hF := hRν14.is hi
          have hz := hRν14.zer hi
          have hN := hl_.N
          have hL := hN.le
          have hp := hN.pos
          have hx15 : Value.int x = Value.int (nI (rI x)) := congrArg Value.int ei
          refine gLocE (lv' := [(0, .ref (kx L)), (1, .int (nI (rI x))), (2, .int y), (3, .int z)]) (by first | (rw [← hx15]; done) | (rw [← hx15]; rfl)) ?_
          have en := nu_val ok2
          obtain ⟨p0, hp9, ep9⟩ := nI_of2 (M := nI (Δ.2.1 (rI x))) (n := (Δ.2.1 (rI x))) (nI_toInt (by omega)) ok.2.1 (Int32.not_lt.mp ok.2.2)
          have epI : rI y = p0 := by rw [ep9]; exact rI_nI (by omega)
          refine gIconst (pc := 53) hC (v := (nI 0)) dX2_fill_53 (by decide +kernel) ?_
          refine gIstore (pc := 54) hC (lv' := [(4, .int (nI 0)), (0, .ref (kx L)), (1, .int (nI (rI x))), (2, .int y), (3, .int z)]) dX2_fill_54 (by decide) rfl ?_
          refine gIloadN (pc := 56) hC dX2_fill_56 rfl 3 rfl ?_
          have hx9 : Value.int y = Value.int (nI p0) := congrArg Value.int ep9
          refine gLocE (lv' := [(4, .int (nI 0)), (0, .ref (kx L)), (1, .int (nI (rI x))), (2, .int (nI p0)), (3, .int z)]) (by first | (rw [← hx9]; done) | (rw [← hx9]; rfl)) ?_
          refine gStk (st' := [.int (nI p0)]) (pc' := 57) (by first | (rw [← hx9]; done) | (rw [← hx9]; rfl)) rfl ?_
          refine gIstore (pc := 57) hC (lv' := [(5, .int (nI p0)), (4, .int (nI 0)), (0, .ref (kx L)), (1, .int (nI (rI x))), (2, .int (nI p0)), (3, .int z)]) dX2_fill_57 (by decide) rfl ?_
          refine gLoc (lv' := [(5, .int (nI p0)), (4, .int (nI 0)), (0, .ref (kx L)), (1, .int (nI (rI x))), (3, .int z)]) [0, 1, 2, 3, 5] rfl ?_
          refine loopUp (S := (mSt × Int32)) (fun i ζ => gG p l e rmX2_fill s m args below meth c D A 6 0 0 Q (WM L ζ.1) 59 [(5, .int (nI i)), (4, .int (ζ.2)), (0, .ref (kx L)), (1, .int (nI (rI x))), (3, .int z)] []) (fun i ζ => p0 ≤ i ∧ (∃ f, ζ.1 = mRo ν14 (rI x) f ∧ (∀ j, j < (Δ.2.1 (rI x)) → f j = if p0 ≤ j ∧ j < i then nI (nu z).val else nI ((Δ.2.2 (rI x)) j).val) ∧ ∀ j, (Δ.2.1 (rI x)) ≤ j → f j = mn ν14 (rI x) j) ∧ ζ.2 = nI (cd (Δ.2.2 (rI x)) (fun j => if rI y ≤ j then nu z else (Δ.2.2 (rI x)) j) i)) (Δ.2.1 (rI x)) ?_ ?_ p0 (ν14, (nI 0)) (by omega) (⟨Nat.le_refl _, ⟨mn ν14 (rI x), (mRo_self _ _).symm, fun j hj => by rw [if_neg (by omega)]; exact hF j hj, fun _ _ => rfl⟩, by rw [cd_same (fun j hj => by show _ = (if rI y ≤ j then nu z else (Δ.2.2 (rI x)) j); rw [if_neg (by omega)])]⟩)
          · intro ζ hI
            obtain ⟨ν1, c1⟩ := ζ
            try dsimp only at hI ⊢
            refine gIload (pc := 59) hC dX2_fill_59 0 rfl ?_
            refine gAloadN (pc := 61) hC dX2_fill_61 rfl 2 rfl ?_
            refine mGetArr (pc := 62) hC 1 (a := (kl L)) (by decide) ⟨rfl, rfl, rfl⟩ hin2 hl14 dX2_fill_62 ?_
            refine gIloadN (pc := 65) hC dX2_fill_65 rfl 3 rfl ?_
            refine mLenLd (pc := 66) hC (v := (nI (Δ.2.1 (rI x)))) (rI x) (rfl) (hi) (by obtain ⟨-, ⟨f, e, -⟩, -⟩ := hI; rw [e]; exact hle) dX2_fill_66 ?_
            refine gIcmp_ge (pc := 67) hC (tgt := 109) dX2_fill_67 (by decide) (fun hc16 => ?_) (fun hc16 => absurd (nI_le (Nat.le_refl _) (by omega)) hc16)
            refine gIload (pc := 109) hC dX2_fill_109 1 rfl ?_
            exact gRetI hC hQ hr (Nat.le_of_ble_eq_true rfl) (Nat.le_of_ble_eq_true rfl) dX2_fill_111 (⟨_, rfl, _, rfl, by obtain ⟨-, ⟨f, e, -⟩, -⟩ := hI; rw [e]; exact htν14, Or.inl ⟨(kk2_0 ok ok2), hI.2.2, by obtain ⟨-, ⟨f, e, hf, hg⟩, -⟩ := hI; exact mRel_upd hRν14 hi e (fun j hj => by rw [hf j hj]; show _ = nI (if rI y ≤ j then nu z else (Δ.2.2 (rI x)) j).val; rw [epI]; by_cases q : p0 ≤ j; (rw [if_pos ⟨q, hj⟩, if_pos q]); rw [if_neg (fun c => q c.1), if_neg q]) hg⟩⟩)
          · intro i ζ hi9 hI ih
            obtain ⟨ν1, c1⟩ := ζ
            try dsimp only at hI ih ⊢
            obtain ⟨hpi, ⟨f, e9, hf, hg⟩, hc9⟩ := hI
            refine gIload (pc := 59) hC dX2_fill_59 0 rfl ?_
            refine gAloadN (pc := 61) hC dX2_fill_61 rfl 2 rfl ?_
            refine mGetArr (pc := 62) hC 1 (a := (kl L)) (by decide) ⟨rfl, rfl, rfl⟩ hin2 hl14 dX2_fill_62 ?_
            refine gIloadN (pc := 65) hC dX2_fill_65 rfl 3 rfl ?_
            refine mLenLd (pc := 66) hC (v := (nI (Δ.2.1 (rI x)))) (rI x) (rfl) (hi) (by rw [e9]; exact hle) dX2_fill_66 ?_
            refine gIcmp_ge (pc := 67) hC (tgt := 109) dX2_fill_67 (by decide) (fun hc17 => absurd hc17 (nI_ge hi9 (by omega))) (fun hc17 => ?_)
            refine gIload (pc := 70) hC dX2_fill_70 1 rfl ?_
            refine gAloadN (pc := 72) hC dX2_fill_72 rfl 2 rfl ?_
            refine mGetArr (pc := 73) hC 0 (a := (kn L)) (by decide) ⟨rfl, rfl, rfl⟩ hin2 hl11 dX2_fill_73 ?_
            refine gIloadN (pc := 76) hC dX2_fill_76 rfl 3 rfl ?_
            refine mRowAld (pc := 77) hC (rI x) (rfl) (hi) dX2_fill_77 ?_
            refine gIload (pc := 78) hC dX2_fill_78 0 rfl ?_
            refine mNumLd (pc := 80) hC (K := (rI x)) (v := (nI ((Δ.2.2 (rI x)) i).val)) (by omega) i (rfl) (by omega) (by rw [e9, mn_ro, hf i hi9, if_neg (by omega)]) dX2_fill_80 ?_
            refine gIloadN (pc := 81) hC dX2_fill_81 rfl 4 rfl ?_
            refine gIcmp_ne (pc := 82) hC (tgt := 89) dX2_fill_82 (by decide) (fun hc18 => ?_) (fun hc18 => ?_)
            · skip
              have hFR : (fun j => if rI y ≤ j then nu z else (Δ.2.2 (rI x)) j) i = nu z := by show (if rI y ≤ i then nu z else (Δ.2.2 (rI x)) i) = nu z; rw [if_pos (by omega)]
              refine gIconst (pc := 89) hC (v := (nI 1)) dX2_fill_89 (by decide +kernel) ?_
              refine gIadd (pc := 90) hC (v := (nI (cd (Δ.2.2 (rI x)) (fun j => if rI y ≤ j then nu z else (Δ.2.2 (rI x)) j) (i + 1)))) dX2_fill_90 (by rw [hc9, cd_s, if_neg (fun h => hc18 (by rw [h]; exact (congrArg (fun q : Rg => nI q.val) hFR).trans en.symm))]; exact nI_add _ 1) ?_
              refine gIstore (pc := 91) hC (lv' := [(4, .int (nI (cd (Δ.2.2 (rI x)) (fun j => if rI y ≤ j then nu z else (Δ.2.2 (rI x)) j) (i + 1)))), (5, .int (nI i)), (0, .ref (kx L)), (1, .int (nI (rI x))), (3, .int z)]) dX2_fill_91 (by decide) rfl ?_
              refine gAloadN (pc := 93) hC dX2_fill_93 rfl 2 rfl ?_
              refine mGetArr (pc := 94) hC 0 (a := (kn L)) (by decide) ⟨rfl, rfl, rfl⟩ hin2 hl11 dX2_fill_94 ?_
              refine gIloadN (pc := 97) hC dX2_fill_97 rfl 3 rfl ?_
              refine mRowAld (pc := 98) hC (rI x) (rfl) (hi) dX2_fill_98 ?_
              refine gIload (pc := 99) hC dX2_fill_99 1 rfl ?_
              refine gIloadN (pc := 101) hC dX2_fill_101 rfl 4 rfl ?_
              obtain ⟨ν19, eν19⟩ : ∃ ζ : mSt, ζ = mRo ν1 (rI x) (upd (mn ν1 (rI x)) i z) := ⟨_, rfl⟩
              refine mNumSt (pc := 102) hC (K := (rI x)) (by omega) i (rfl) (by omega) eν19 dX2_fill_102 ?_
              refine gIinc (pc := 103) hC (v := (nI (i + 1))) (lv' := [(5, .int (nI (i + 1))), (4, .int (nI (cd (Δ.2.2 (rI x)) (fun j => if rI y ≤ j then nu z else (Δ.2.2 (rI x)) j) (i + 1)))), (0, .ref (kx L)), (1, .int (nI (rI x))), (3, .int z)]) dX2_fill_103 (q := 1) rfl (nI_1 _) (by decide) rfl ?_
              refine gGoto (pc := 106) hC (tgt := 59) dX2_fill_106 (by decide) ?_
              refine gLoc (lv' := [(5, .int (nI (i + 1))), (4, .int (nI (cd (Δ.2.2 (rI x)) (fun j => if rI y ≤ j then nu z else (Δ.2.2 (rI x)) j) (i + 1)))), (0, .ref (kx L)), (1, .int (nI (rI x))), (3, .int z)]) [0, 1, 2, 3, 4] rfl ?_
              exact ih (ν19, (nI (cd (Δ.2.2 (rI x)) (fun j => if rI y ≤ j then nu z else (Δ.2.2 (rI x)) j) (i + 1)))) (⟨by omega, ⟨upd f i z, by rw [eν19, e9, mn_ro, mRo_twice], fun j hj => by by_cases q : j = i; (subst q; rw [upd_at, if_pos ⟨hpi, by omega⟩]; exact en); (rw [upd_ne _ _ q, hf j hj]; by_cases c1 : p0 ≤ j ∧ j < i; (rw [if_pos c1, if_pos ⟨c1.1, by omega⟩]); rw [if_neg c1, if_neg (by omega)]), fun j hj => by rw [upd_ne _ _ (by omega)]; exact hg j hj⟩, rfl⟩)
            · skip
              have hFR : (fun j => if rI y ≤ j then nu z else (Δ.2.2 (rI x)) j) i = nu z := by show (if rI y ≤ i then nu z else (Δ.2.2 (rI x)) i) = nu z; rw [if_pos (by omega)]
              refine gIconst (pc := 85) hC (v := (nI 0)) dX2_fill_85 (by decide +kernel) ?_
              refine gGoto (pc := 86) hC (tgt := 90) dX2_fill_86 (by decide) ?_
              refine gIadd (pc := 90) hC (v := (nI (cd (Δ.2.2 (rI x)) (fun j => if rI y ≤ j then nu z else (Δ.2.2 (rI x)) j) (i + 1)))) dX2_fill_90 (by rw [hc9, cd_s, if_pos ((val_ne.mp (hc18.trans en)).trans hFR.symm)]; exact nI_add _ 0) ?_
              refine gIstore (pc := 91) hC (lv' := [(4, .int (nI (cd (Δ.2.2 (rI x)) (fun j => if rI y ≤ j then nu z else (Δ.2.2 (rI x)) j) (i + 1)))), (5, .int (nI i)), (0, .ref (kx L)), (1, .int (nI (rI x))), (3, .int z)]) dX2_fill_91 (by decide) rfl ?_
              refine gAloadN (pc := 93) hC dX2_fill_93 rfl 2 rfl ?_
              refine mGetArr (pc := 94) hC 0 (a := (kn L)) (by decide) ⟨rfl, rfl, rfl⟩ hin2 hl11 dX2_fill_94 ?_
              refine gIloadN (pc := 97) hC dX2_fill_97 rfl 3 rfl ?_
              refine mRowAld (pc := 98) hC (rI x) (rfl) (hi) dX2_fill_98 ?_
              refine gIload (pc := 99) hC dX2_fill_99 1 rfl ?_
              refine gIloadN (pc := 101) hC dX2_fill_101 rfl 4 rfl ?_
              obtain ⟨ν20, eν20⟩ : ∃ ζ : mSt, ζ = mRo ν1 (rI x) (upd (mn ν1 (rI x)) i z) := ⟨_, rfl⟩
              refine mNumSt (pc := 102) hC (K := (rI x)) (by omega) i (rfl) (by omega) eν20 dX2_fill_102 ?_
              refine gIinc (pc := 103) hC (v := (nI (i + 1))) (lv' := [(5, .int (nI (i + 1))), (4, .int (nI (cd (Δ.2.2 (rI x)) (fun j => if rI y ≤ j then nu z else (Δ.2.2 (rI x)) j) (i + 1)))), (0, .ref (kx L)), (1, .int (nI (rI x))), (3, .int z)]) dX2_fill_103 (q := 1) rfl (nI_1 _) (by decide) rfl ?_
              refine gGoto (pc := 106) hC (tgt := 59) dX2_fill_106 (by decide) ?_
              refine gLoc (lv' := [(5, .int (nI (i + 1))), (4, .int (nI (cd (Δ.2.2 (rI x)) (fun j => if rI y ≤ j then nu z else (Δ.2.2 (rI x)) j) (i + 1)))), (0, .ref (kx L)), (1, .int (nI (rI x))), (3, .int z)]) [0, 1, 2, 3, 4] rfl ?_
              exact ih (ν20, (nI (cd (Δ.2.2 (rI x)) (fun j => if rI y ≤ j then nu z else (Δ.2.2 (rI x)) j) (i + 1)))) (⟨by omega, ⟨upd f i z, by rw [eν20, e9, mn_ro, mRo_twice], fun j hj => by by_cases q : j = i; (subst q; rw [upd_at, if_pos ⟨hpi, by omega⟩]; exact en); (rw [upd_ne _ _ q, hf j hj]; by_cases c1 : p0 ≤ j ∧ j < i; (rw [if_pos c1, if_pos ⟨c1.1, by omega⟩]); rw [if_neg c1, if_neg (by omega)]), fun j hj => by rw [upd_ne _ _ (by omega)]; exact hg j hj⟩, rfl⟩)
        · skip
          have nok2 : ¬ (okNum z) := bI_n.mp hc13
          refine gIconst (pc := 51) hC (v := (nI 0)) dX2_fill_51 (by decide +kernel) ?_
          exact gRetI hC hQ hr (Nat.le_of_ble_eq_true rfl) (Nat.le_of_ble_eq_true rfl) dX2_fill_52 (⟨_, rfl, _, rfl, by rw [kk2_2 ok nok2]; exact thr_f nok2, Or.inr ⟨kne (kk2_2 ok nok2) ne2, hR⟩⟩)
    · skip
      refine gIconst (pc := 24) hC (v := (nI 1)) dX2_fill_24 (by decide +kernel) ?_
      refine gGoto (pc := 25) hC (tgt := 29) dX2_fill_25 (by decide) ?_
      refine gStk (st' := [.int (bI (okR x ∧ ¬ y < 0 ∧ ¬ nI (Δ.2.1 (rI x)) < y)), .ref (kx L)]) (pc' := 29) (by rw [bI_t ⟨hr0, bI_n.mp hc11⟩]) rfl ?_
      refine gIconst (pc := 29) hC (v := (nI 1)) dX2_fill_29 (by decide +kernel) ?_
      refine gV (pc := 30) (rest := []) (ci := 2) (q0 := 0) hC (c_X2_no l D L μ (okR x ∧ ¬ y < 0 ∧ ¬ nI (Δ.2.1 (rI x)) < y) (nI 1)) rfl rfl (cwV 2 hC.2.2.2.2.1 gX2_fill_X2_no rfl rfl rfl (by decide +kernel) ⟨Nat.le_of_ble_eq_true rfl, Nat.le_of_ble_eq_true rfl⟩) rfl rfl (Nat.le_of_ble_eq_true rfl) dX2_fill_30 ⟨Nat.le_of_ble_eq_true rfl, Nat.le_of_ble_eq_true rfl⟩ (fun v w1 hp => ?_)
      obtain ⟨rfl, rfl⟩ := hp
      refine gStk (st' := [.int (bI (¬ (okR x ∧ ¬ y < 0 ∧ ¬ nI (Δ.2.1 (rI x)) < y)))]) (pc' := 33) rfl rfl ?_
      refine gIf_ne (pc := 33) hC (tgt := 51) dX2_fill_33 (by decide) (fun hc21 => ?_) (fun hc21 => ?_)
      · skip
        have nok : ¬ (okR x ∧ ¬ y < 0 ∧ ¬ nI (Δ.2.1 (rI x)) < y) := bI_n.mp hc21
        refine gIconst (pc := 51) hC (v := (nI 0)) dX2_fill_51 (by decide +kernel) ?_
        exact gRetI hC hQ hr (Nat.le_of_ble_eq_true rfl) (Nat.le_of_ble_eq_true rfl) dX2_fill_52 (⟨_, rfl, _, rfl, by rw [kk2_1 nok]; exact thr_f nok, Or.inr ⟨kne (kk2_1 nok) ne1, hR⟩⟩)
      · skip
        have ok : (okR x ∧ ¬ y < 0 ∧ ¬ nI (Δ.2.1 (rI x)) < y) := nn (bI_0.mp hc21)
        refine gAloadN (pc := 36) hC dX2_fill_36 rfl 0 rfl ?_
        refine gIloadN (pc := 37) hC dX2_fill_37 rfl 3 rfl ?_
        refine gIconst (pc := 38) hC (v := (nI 0)) dX2_fill_38 (by decide +kernel) ?_
        refine gLdc (pc := 39) hC (v := 65536) dX2_fill_39 (by decide +kernel) ?_
        refine gS (pc := 41) (rest := [.ref (kx L)]) hC (c_X2_in l D _ _ z (nI 0) (nI 65536)) (va_cwS 3 hC.2.2.2.2.1 gX2_fill_X2_in rfl rfl rfl (by decide +kernel) ⟨Nat.le_of_ble_eq_true rfl, Nat.le_of_ble_eq_true rfl⟩) rfl rfl (Nat.le_of_ble_eq_true rfl) dX2_fill_41 ⟨Nat.le_of_ble_eq_true rfl, Nat.le_of_ble_eq_true rfl⟩ (fun v w1 hp => ?_)
        obtain ⟨rfl, rfl⟩ := hp
        rw [bI_c m_num]
        refine gStk (st' := [.int (bI (okNum z)), .ref (kx L)]) (pc' := 44) rfl rfl ?_
        refine gIconst (pc := 44) hC (v := (nI 2)) dX2_fill_44 (by decide +kernel) ?_
        refine gV (pc := 45) (rest := []) (ci := 2) (q0 := 0) hC (c_X2_no l D L (mTh μ (if (okR x ∧ ¬ y < 0 ∧ ¬ nI (Δ.2.1 (rI x)) < y) then nI 0 else nI 1)) (okNum z) (nI 2)) rfl rfl (cwV 2 hC.2.2.2.2.1 gX2_fill_X2_no rfl rfl rfl (by decide +kernel) ⟨Nat.le_of_ble_eq_true rfl, Nat.le_of_ble_eq_true rfl⟩) rfl rfl (Nat.le_of_ble_eq_true rfl) dX2_fill_45 ⟨Nat.le_of_ble_eq_true rfl, Nat.le_of_ble_eq_true rfl⟩ (fun v w1 hp => ?_)
        obtain ⟨rfl, rfl⟩ := hp
        refine gStk (st' := [.int (bI (¬ okNum z))]) (pc' := 48) rfl rfl ?_
        refine gIf_eq (pc := 48) hC (tgt := 53) dX2_fill_48 (by decide) (fun hc22 => ?_) (fun hc22 => ?_)
        · skip
          have ok2 : okNum z := nn (bI_0.mp hc22)
          obtain ⟨ν23, eν23, hRν23, htν23⟩ : ∃ ζ : mSt, ζ = (mTh μ (if okNum z then nI 0 else nI 2)) ∧ mRel ζ Δ ∧ mt ζ = nI (kk2 (okR x ∧ ¬ y < 0 ∧ ¬ nI (Δ.2.1 (rI x)) < y) (okNum z)) := ⟨_, rfl, hR, (by rw [kk2_0 ok ok2]; exact thr_t ok2)⟩
          refine gWs (ws' := WM L ν23) (by first | (rw [eν23]; done) | (rw [eν23]; rfl)) ?_
          obtain ⟨hi, ei⟩ := ok.1.get
          have hl_ := hRν23.okl hi
          have hle := hRν23.len hi
          have hF := hRν23.is hi
          have hz := hRν23.zer hi
          have hN := hl_.N
          have hL := hN.le
          have hp := hN.pos
          have hx24 : Value.int x = Value.int (nI (rI x)) := congrArg Value.int ei
          refine gLocE (lv' := [(0, .ref (kx L)), (1, .int (nI (rI x))), (2, .int y), (3, .int z)]) (by first | (rw [← hx24]; done) | (rw [← hx24]; rfl)) ?_
          have en := nu_val ok2
          obtain ⟨p0, hp9, ep9⟩ := nI_of2 (M := nI (Δ.2.1 (rI x))) (n := (Δ.2.1 (rI x))) (nI_toInt (by omega)) ok.2.1 (Int32.not_lt.mp ok.2.2)
          have epI : rI y = p0 := by rw [ep9]; exact rI_nI (by omega)
          refine gIconst (pc := 53) hC (v := (nI 0)) dX2_fill_53 (by decide +kernel) ?_
          refine gIstore (pc := 54) hC (lv' := [(4, .int (nI 0)), (0, .ref (kx L)), (1, .int (nI (rI x))), (2, .int y), (3, .int z)]) dX2_fill_54 (by decide) rfl ?_
          refine gIloadN (pc := 56) hC dX2_fill_56 rfl 3 rfl ?_
          have hx9 : Value.int y = Value.int (nI p0) := congrArg Value.int ep9
          refine gLocE (lv' := [(4, .int (nI 0)), (0, .ref (kx L)), (1, .int (nI (rI x))), (2, .int (nI p0)), (3, .int z)]) (by first | (rw [← hx9]; done) | (rw [← hx9]; rfl)) ?_
          refine gStk (st' := [.int (nI p0)]) (pc' := 57) (by first | (rw [← hx9]; done) | (rw [← hx9]; rfl)) rfl ?_
          refine gIstore (pc := 57) hC (lv' := [(5, .int (nI p0)), (4, .int (nI 0)), (0, .ref (kx L)), (1, .int (nI (rI x))), (2, .int (nI p0)), (3, .int z)]) dX2_fill_57 (by decide) rfl ?_
          refine gLoc (lv' := [(5, .int (nI p0)), (4, .int (nI 0)), (0, .ref (kx L)), (1, .int (nI (rI x))), (3, .int z)]) [0, 1, 2, 3, 5] rfl ?_
          refine loopUp (S := (mSt × Int32)) (fun i ζ => gG p l e rmX2_fill s m args below meth c D A 6 0 0 Q (WM L ζ.1) 59 [(5, .int (nI i)), (4, .int (ζ.2)), (0, .ref (kx L)), (1, .int (nI (rI x))), (3, .int z)] []) (fun i ζ => p0 ≤ i ∧ (∃ f, ζ.1 = mRo ν23 (rI x) f ∧ (∀ j, j < (Δ.2.1 (rI x)) → f j = if p0 ≤ j ∧ j < i then nI (nu z).val else nI ((Δ.2.2 (rI x)) j).val) ∧ ∀ j, (Δ.2.1 (rI x)) ≤ j → f j = mn ν23 (rI x) j) ∧ ζ.2 = nI (cd (Δ.2.2 (rI x)) (fun j => if rI y ≤ j then nu z else (Δ.2.2 (rI x)) j) i)) (Δ.2.1 (rI x)) ?_ ?_ p0 (ν23, (nI 0)) (by omega) (⟨Nat.le_refl _, ⟨mn ν23 (rI x), (mRo_self _ _).symm, fun j hj => by rw [if_neg (by omega)]; exact hF j hj, fun _ _ => rfl⟩, by rw [cd_same (fun j hj => by show _ = (if rI y ≤ j then nu z else (Δ.2.2 (rI x)) j); rw [if_neg (by omega)])]⟩)
          · intro ζ hI
            obtain ⟨ν1, c1⟩ := ζ
            try dsimp only at hI ⊢
            refine gIload (pc := 59) hC dX2_fill_59 0 rfl ?_
            refine gAloadN (pc := 61) hC dX2_fill_61 rfl 2 rfl ?_
            refine mGetArr (pc := 62) hC 1 (a := (kl L)) (by decide) ⟨rfl, rfl, rfl⟩ hin2 hl14 dX2_fill_62 ?_
            refine gIloadN (pc := 65) hC dX2_fill_65 rfl 3 rfl ?_
            refine mLenLd (pc := 66) hC (v := (nI (Δ.2.1 (rI x)))) (rI x) (rfl) (hi) (by obtain ⟨-, ⟨f, e, -⟩, -⟩ := hI; rw [e]; exact hle) dX2_fill_66 ?_
            refine gIcmp_ge (pc := 67) hC (tgt := 109) dX2_fill_67 (by decide) (fun hc25 => ?_) (fun hc25 => absurd (nI_le (Nat.le_refl _) (by omega)) hc25)
            refine gIload (pc := 109) hC dX2_fill_109 1 rfl ?_
            exact gRetI hC hQ hr (Nat.le_of_ble_eq_true rfl) (Nat.le_of_ble_eq_true rfl) dX2_fill_111 (⟨_, rfl, _, rfl, by obtain ⟨-, ⟨f, e, -⟩, -⟩ := hI; rw [e]; exact htν23, Or.inl ⟨(kk2_0 ok ok2), hI.2.2, by obtain ⟨-, ⟨f, e, hf, hg⟩, -⟩ := hI; exact mRel_upd hRν23 hi e (fun j hj => by rw [hf j hj]; show _ = nI (if rI y ≤ j then nu z else (Δ.2.2 (rI x)) j).val; rw [epI]; by_cases q : p0 ≤ j; (rw [if_pos ⟨q, hj⟩, if_pos q]); rw [if_neg (fun c => q c.1), if_neg q]) hg⟩⟩)
          · intro i ζ hi9 hI ih
            obtain ⟨ν1, c1⟩ := ζ
            try dsimp only at hI ih ⊢
            obtain ⟨hpi, ⟨f, e9, hf, hg⟩, hc9⟩ := hI
            refine gIload (pc := 59) hC dX2_fill_59 0 rfl ?_
            refine gAloadN (pc := 61) hC dX2_fill_61 rfl 2 rfl ?_
            refine mGetArr (pc := 62) hC 1 (a := (kl L)) (by decide) ⟨rfl, rfl, rfl⟩ hin2 hl14 dX2_fill_62 ?_
            refine gIloadN (pc := 65) hC dX2_fill_65 rfl 3 rfl ?_
            refine mLenLd (pc := 66) hC (v := (nI (Δ.2.1 (rI x)))) (rI x) (rfl) (hi) (by rw [e9]; exact hle) dX2_fill_66 ?_
            refine gIcmp_ge (pc := 67) hC (tgt := 109) dX2_fill_67 (by decide) (fun hc26 => absurd hc26 (nI_ge hi9 (by omega))) (fun hc26 => ?_)
            refine gIload (pc := 70) hC dX2_fill_70 1 rfl ?_
            refine gAloadN (pc := 72) hC dX2_fill_72 rfl 2 rfl ?_
            refine mGetArr (pc := 73) hC 0 (a := (kn L)) (by decide) ⟨rfl, rfl, rfl⟩ hin2 hl11 dX2_fill_73 ?_
            refine gIloadN (pc := 76) hC dX2_fill_76 rfl 3 rfl ?_
            refine mRowAld (pc := 77) hC (rI x) (rfl) (hi) dX2_fill_77 ?_
            refine gIload (pc := 78) hC dX2_fill_78 0 rfl ?_
            refine mNumLd (pc := 80) hC (K := (rI x)) (v := (nI ((Δ.2.2 (rI x)) i).val)) (by omega) i (rfl) (by omega) (by rw [e9, mn_ro, hf i hi9, if_neg (by omega)]) dX2_fill_80 ?_
            refine gIloadN (pc := 81) hC dX2_fill_81 rfl 4 rfl ?_
            refine gIcmp_ne (pc := 82) hC (tgt := 89) dX2_fill_82 (by decide) (fun hc27 => ?_) (fun hc27 => ?_)
            · skip
              have hFR : (fun j => if rI y ≤ j then nu z else (Δ.2.2 (rI x)) j) i = nu z := by show (if rI y ≤ i then nu z else (Δ.2.2 (rI x)) i) = nu z; rw [if_pos (by omega)]
              refine gIconst (pc := 89) hC (v := (nI 1)) dX2_fill_89 (by decide +kernel) ?_
              refine gIadd (pc := 90) hC (v := (nI (cd (Δ.2.2 (rI x)) (fun j => if rI y ≤ j then nu z else (Δ.2.2 (rI x)) j) (i + 1)))) dX2_fill_90 (by rw [hc9, cd_s, if_neg (fun h => hc27 (by rw [h]; exact (congrArg (fun q : Rg => nI q.val) hFR).trans en.symm))]; exact nI_add _ 1) ?_
              refine gIstore (pc := 91) hC (lv' := [(4, .int (nI (cd (Δ.2.2 (rI x)) (fun j => if rI y ≤ j then nu z else (Δ.2.2 (rI x)) j) (i + 1)))), (5, .int (nI i)), (0, .ref (kx L)), (1, .int (nI (rI x))), (3, .int z)]) dX2_fill_91 (by decide) rfl ?_
              refine gAloadN (pc := 93) hC dX2_fill_93 rfl 2 rfl ?_
              refine mGetArr (pc := 94) hC 0 (a := (kn L)) (by decide) ⟨rfl, rfl, rfl⟩ hin2 hl11 dX2_fill_94 ?_
              refine gIloadN (pc := 97) hC dX2_fill_97 rfl 3 rfl ?_
              refine mRowAld (pc := 98) hC (rI x) (rfl) (hi) dX2_fill_98 ?_
              refine gIload (pc := 99) hC dX2_fill_99 1 rfl ?_
              refine gIloadN (pc := 101) hC dX2_fill_101 rfl 4 rfl ?_
              obtain ⟨ν28, eν28⟩ : ∃ ζ : mSt, ζ = mRo ν1 (rI x) (upd (mn ν1 (rI x)) i z) := ⟨_, rfl⟩
              refine mNumSt (pc := 102) hC (K := (rI x)) (by omega) i (rfl) (by omega) eν28 dX2_fill_102 ?_
              refine gIinc (pc := 103) hC (v := (nI (i + 1))) (lv' := [(5, .int (nI (i + 1))), (4, .int (nI (cd (Δ.2.2 (rI x)) (fun j => if rI y ≤ j then nu z else (Δ.2.2 (rI x)) j) (i + 1)))), (0, .ref (kx L)), (1, .int (nI (rI x))), (3, .int z)]) dX2_fill_103 (q := 1) rfl (nI_1 _) (by decide) rfl ?_
              refine gGoto (pc := 106) hC (tgt := 59) dX2_fill_106 (by decide) ?_
              refine gLoc (lv' := [(5, .int (nI (i + 1))), (4, .int (nI (cd (Δ.2.2 (rI x)) (fun j => if rI y ≤ j then nu z else (Δ.2.2 (rI x)) j) (i + 1)))), (0, .ref (kx L)), (1, .int (nI (rI x))), (3, .int z)]) [0, 1, 2, 3, 4] rfl ?_
              exact ih (ν28, (nI (cd (Δ.2.2 (rI x)) (fun j => if rI y ≤ j then nu z else (Δ.2.2 (rI x)) j) (i + 1)))) (⟨by omega, ⟨upd f i z, by rw [eν28, e9, mn_ro, mRo_twice], fun j hj => by by_cases q : j = i; (subst q; rw [upd_at, if_pos ⟨hpi, by omega⟩]; exact en); (rw [upd_ne _ _ q, hf j hj]; by_cases c1 : p0 ≤ j ∧ j < i; (rw [if_pos c1, if_pos ⟨c1.1, by omega⟩]); rw [if_neg c1, if_neg (by omega)]), fun j hj => by rw [upd_ne _ _ (by omega)]; exact hg j hj⟩, rfl⟩)
            · skip
              have hFR : (fun j => if rI y ≤ j then nu z else (Δ.2.2 (rI x)) j) i = nu z := by show (if rI y ≤ i then nu z else (Δ.2.2 (rI x)) i) = nu z; rw [if_pos (by omega)]
              refine gIconst (pc := 85) hC (v := (nI 0)) dX2_fill_85 (by decide +kernel) ?_
              refine gGoto (pc := 86) hC (tgt := 90) dX2_fill_86 (by decide) ?_
              refine gIadd (pc := 90) hC (v := (nI (cd (Δ.2.2 (rI x)) (fun j => if rI y ≤ j then nu z else (Δ.2.2 (rI x)) j) (i + 1)))) dX2_fill_90 (by rw [hc9, cd_s, if_pos ((val_ne.mp (hc27.trans en)).trans hFR.symm)]; exact nI_add _ 0) ?_
              refine gIstore (pc := 91) hC (lv' := [(4, .int (nI (cd (Δ.2.2 (rI x)) (fun j => if rI y ≤ j then nu z else (Δ.2.2 (rI x)) j) (i + 1)))), (5, .int (nI i)), (0, .ref (kx L)), (1, .int (nI (rI x))), (3, .int z)]) dX2_fill_91 (by decide) rfl ?_
              refine gAloadN (pc := 93) hC dX2_fill_93 rfl 2 rfl ?_
              refine mGetArr (pc := 94) hC 0 (a := (kn L)) (by decide) ⟨rfl, rfl, rfl⟩ hin2 hl11 dX2_fill_94 ?_
              refine gIloadN (pc := 97) hC dX2_fill_97 rfl 3 rfl ?_
              refine mRowAld (pc := 98) hC (rI x) (rfl) (hi) dX2_fill_98 ?_
              refine gIload (pc := 99) hC dX2_fill_99 1 rfl ?_
              refine gIloadN (pc := 101) hC dX2_fill_101 rfl 4 rfl ?_
              obtain ⟨ν29, eν29⟩ : ∃ ζ : mSt, ζ = mRo ν1 (rI x) (upd (mn ν1 (rI x)) i z) := ⟨_, rfl⟩
              refine mNumSt (pc := 102) hC (K := (rI x)) (by omega) i (rfl) (by omega) eν29 dX2_fill_102 ?_
              refine gIinc (pc := 103) hC (v := (nI (i + 1))) (lv' := [(5, .int (nI (i + 1))), (4, .int (nI (cd (Δ.2.2 (rI x)) (fun j => if rI y ≤ j then nu z else (Δ.2.2 (rI x)) j) (i + 1)))), (0, .ref (kx L)), (1, .int (nI (rI x))), (3, .int z)]) dX2_fill_103 (q := 1) rfl (nI_1 _) (by decide) rfl ?_
              refine gGoto (pc := 106) hC (tgt := 59) dX2_fill_106 (by decide) ?_
              refine gLoc (lv' := [(5, .int (nI (i + 1))), (4, .int (nI (cd (Δ.2.2 (rI x)) (fun j => if rI y ≤ j then nu z else (Δ.2.2 (rI x)) j) (i + 1)))), (0, .ref (kx L)), (1, .int (nI (rI x))), (3, .int z)]) [0, 1, 2, 3, 4] rfl ?_
              exact ih (ν29, (nI (cd (Δ.2.2 (rI x)) (fun j => if rI y ≤ j then nu z else (Δ.2.2 (rI x)) j) (i + 1)))) (⟨by omega, ⟨upd f i z, by rw [eν29, e9, mn_ro, mRo_twice], fun j hj => by by_cases q : j = i; (subst q; rw [upd_at, if_pos ⟨hpi, by omega⟩]; exact en); (rw [upd_ne _ _ q, hf j hj]; by_cases c1 : p0 ≤ j ∧ j < i; (rw [if_pos c1, if_pos ⟨c1.1, by omega⟩]); rw [if_neg c1, if_neg (by omega)]), fun j hj => by rw [upd_ne _ _ (by omega)]; exact hg j hj⟩, rfl⟩)
        · skip
          have nok2 : ¬ (okNum z) := bI_n.mp hc22
          refine gIconst (pc := 51) hC (v := (nI 0)) dX2_fill_51 (by decide +kernel) ?_
          exact gRetI hC hQ hr (Nat.le_of_ble_eq_true rfl) (Nat.le_of_ble_eq_true rfl) dX2_fill_52 (⟨_, rfl, _, rfl, by rw [kk2_2 ok nok2]; exact thr_f nok2, Or.inr ⟨kne (kk2_2 ok nok2) ne2, hR⟩⟩)

abbrev rmX2_copy : Room := { frames := 2, cells := 0, slots := 0, locals := 44 }
set_option maxRecDepth 100000 in
set_option maxHeartbeats 4000000 in
theorem c_X2_copy (l : Launch) (D : va_G) (L : mLay) (μ : mSt) (Δ : dSt) (x : Int32) (y : Int32) (hR : mRel μ Δ) : gM l yX2_copy wsX2_copy rmX2_copy D (mTy L) (WM L μ) [.ref (kx L), .int x, .int y] 0 0 (fun r w => mPost L Δ (dRow Δ (rI y) (Δ.2.1 (rI x)) (Δ.2.2 (rI x))) (kk1 (okR x ∧ okR y)) (fun b => ((b = nI 0 ∧ dLike Δ (rI y) (rI x)) ∨ (b = nI 1 ∧ ¬ dLike Δ (rI y) (rI x)))) r w) := by
  refine gM.of (cc := cX2_copy) (maxL := 5) (ret := (some .boolean)) (own := RX2) (by decide) rfl rfl (Nat.le_of_ble_eq_true rfl) rfl ?_
  intro p e s m args below meth c A Q hC hr hnm hQ
  have hin2 : ∀ w ∈ u_ws RX2 TX2 6, w ∈ wsX2_copy := by decide +kernel
  have hl11 : Cond.fieldLink RX2 11 "RootrowsModel" "numbers" "[[I" ∈ wsX2_copy := by decide +kernel
  have hl14 : Cond.fieldLink RX2 14 "RootrowsModel" "lengths" "[I" ∈ wsX2_copy := by decide +kernel
  refine gAloadN (pc := 0) hC dX2_copy_0 rfl 0 rfl ?_
  refine gIloadN (pc := 1) hC dX2_copy_1 rfl 1 rfl ?_
  refine gIloadN (pc := 2) hC dX2_copy_2 rfl 2 rfl ?_
  refine gV (pc := 3) (rest := []) (ci := 2) (q0 := 0) hC (c_X2_lacksTwo l D L μ x y) rfl rfl (cwV 2 hC.2.2.2.2.1 gX2_copy_X2_lacksTwo rfl rfl rfl (by decide +kernel) ⟨Nat.le_of_ble_eq_true rfl, Nat.le_of_ble_eq_true rfl⟩) rfl rfl (Nat.le_of_ble_eq_true rfl) dX2_copy_3 ⟨Nat.le_of_ble_eq_true rfl, Nat.le_of_ble_eq_true rfl⟩ (fun v w1 hp => ?_)
  obtain ⟨rfl, rfl⟩ := hp
  refine gStk (st' := [.int (bI (¬ (okR x ∧ okR y)))]) (pc' := 6) rfl rfl ?_
  refine gIf_eq (pc := 6) hC (tgt := 11) dX2_copy_6 (by decide) (fun hc1 => ?_) (fun hc1 => ?_)
  · skip
    have ok : (okR x ∧ okR y) := nn (bI_0.mp hc1)
    obtain ⟨ν2, eν2, hRν2, htν2⟩ : ∃ ζ : mSt, ζ = (mTh μ (if (okR x ∧ okR y) then nI 0 else nI 1)) ∧ mRel ζ Δ ∧ mt ζ = nI (kk1 (okR x ∧ okR y)) := ⟨_, rfl, hR, (by rw [kk1_0 ok]; exact thr_t ok)⟩
    refine gWs (ws' := WM L ν2) (by first | (rw [eν2]; done) | (rw [eν2]; rfl)) ?_
    obtain ⟨hi, ei⟩ := ok.1.get
    have hl_ := hRν2.okl hi
    have hle := hRν2.len hi
    have hF := hRν2.is hi
    have hz := hRν2.zer hi
    have hN := hl_.N
    have hL := hN.le
    have hp := hN.pos
    have hx3 : Value.int x = Value.int (nI (rI x)) := congrArg Value.int ei
    refine gLocE (lv' := [(0, .ref (kx L)), (1, .int (nI (rI x))), (2, .int y)]) (by first | (rw [← hx3]; done) | (rw [← hx3]; rfl)) ?_
    obtain ⟨hi2, ei2⟩ := ok.2.get
    have hl2_ := hRν2.okl hi2
    have hle2 := hRν2.len hi2
    have hF2 := hRν2.is hi2
    have hz2 := hRν2.zer hi2
    have hN2 := hl2_.N
    have hL2 := hN2.le
    have hp2 := hN2.pos
    have hx4 : Value.int y = Value.int (nI (rI y)) := congrArg Value.int ei2
    refine gLocE (lv' := [(0, .ref (kx L)), (1, .int (nI (rI x))), (2, .int (nI (rI y)))]) (by first | (rw [← hx4]; done) | (rw [← hx4]; rfl)) ?_
    have inst := dLikeDec Δ (rI x) (rI y)
    refine gAloadN (pc := 11) hC dX2_copy_11 rfl 0 rfl ?_
    refine gIloadN (pc := 12) hC dX2_copy_12 rfl 1 rfl ?_
    refine gIloadN (pc := 13) hC dX2_copy_13 rfl 2 rfl ?_
    refine gV (pc := 14) (rest := []) (ci := 2) (q0 := 0) hC (c_X2_areAlike l D L ν2 Δ (rI x) (rI y) hi hi2 hRν2) rfl rfl (cwV 2 hC.2.2.2.2.1 gX2_copy_X2_areAlike rfl rfl rfl (by decide +kernel) ⟨Nat.le_of_ble_eq_true rfl, Nat.le_of_ble_eq_true rfl⟩) rfl rfl (Nat.le_of_ble_eq_true rfl) dX2_copy_14 ⟨Nat.le_of_ble_eq_true rfl, Nat.le_of_ble_eq_true rfl⟩ (fun v w1 hp => ?_)
    obtain ⟨rfl, rfl⟩ := hp
    refine gStk (st' := [.int (bI (dLike Δ (rI x) (rI y)))]) (pc' := 17) rfl rfl ?_
    refine gIf_ne (pc := 17) hC (tgt := 24) dX2_copy_17 (by decide) (fun hc5 => ?_) (fun hc5 => ?_)
    · skip
      have hd := bI_n.mp hc5
      refine gIconst (pc := 24) hC (v := (nI 0)) dX2_copy_24 (by decide +kernel) ?_
      refine gIstoreN (pc := 25) hC (lv' := [(3, .int (nI 0)), (0, .ref (kx L)), (1, .int (nI (rI x))), (2, .int (nI (rI y)))]) dX2_copy_25 rfl (by decide) rfl ?_
      refine gAloadN (pc := 26) hC dX2_copy_26 rfl 1 rfl ?_
      refine mGetArr (pc := 27) hC 1 (a := (kl L)) (by decide) ⟨rfl, rfl, rfl⟩ hin2 hl14 dX2_copy_27 ?_
      refine gIloadN (pc := 30) hC dX2_copy_30 rfl 3 rfl ?_
      refine gAloadN (pc := 31) hC dX2_copy_31 rfl 1 rfl ?_
      refine mGetArr (pc := 32) hC 1 (a := (kl L)) (by decide) ⟨rfl, rfl, rfl⟩ hin2 hl14 dX2_copy_32 ?_
      refine gIloadN (pc := 35) hC dX2_copy_35 rfl 2 rfl ?_
      refine mLenLd (pc := 36) hC (v := (nI (Δ.2.1 (rI x)))) (rI x) (rfl) (hi) (hle) dX2_copy_36 ?_
      obtain ⟨ν6, eν6⟩ : ∃ ζ : mSt, ζ = mLe ν2 (upd (ml ν2) (rI y) (nI (Δ.2.1 (rI x)))) := ⟨_, rfl⟩
      refine mLenSt (pc := 37) hC (rI y) (rfl) (hi2) eν6 dX2_copy_37 ?_
      refine gIconst (pc := 38) hC (v := (nI 0)) dX2_copy_38 (by decide +kernel) ?_
      refine gIstore (pc := 39) hC (lv' := [(4, .int (nI 0)), (3, .int (nI 0)), (0, .ref (kx L)), (1, .int (nI (rI x))), (2, .int (nI (rI y)))]) dX2_copy_39 (by decide) rfl ?_
      refine gLoc (lv' := [(4, .int (nI 0)), (3, .int (nI 0)), (0, .ref (kx L)), (1, .int (nI (rI x))), (2, .int (nI (rI y)))]) [0, 1, 2, 3, 4] rfl ?_
      refine loopUp (S := mSt) (fun i ζ => gG p l e rmX2_copy s m args below meth c D A 5 0 0 Q (WM L ζ) 41 [(4, .int (nI i)), (3, .int (nI 0)), (0, .ref (kx L)), (1, .int (nI (rI x))), (2, .int (nI (rI y)))] []) (fun i ζ => ∃ f, ζ = mRo ν6 (rI y) f ∧ (∀ j, j < i → f j = mn ν2 (rI x) j) ∧ ∀ j, i ≤ j → f j = mn ν2 (rI y) j) 16 ?_ ?_ 0 (ν6) (by omega) (⟨mn ν6 (rI y), (mRo_self _ _).symm, fun j hj => absurd hj (Nat.not_lt_zero j), fun _ _ => by rw [eν6]; rfl⟩)
      · intro ζ hI
        revert hI; generalize ζ = ν1; intro hI
        refine gIload (pc := 41) hC dX2_copy_41 0 rfl ?_
        refine gBipush (pc := 43) hC (v := (nI 16)) dX2_copy_43 (by decide +kernel) ?_
        refine gIcmp_ge (pc := 45) hC (tgt := 72) dX2_copy_45 (by decide) (fun hc7 => ?_) (fun hc7 => absurd (nI_le (Nat.le_refl _) (by decide)) hc7)
        refine gIloadN (pc := 72) hC dX2_copy_72 rfl 1 rfl ?_
        exact gRetZ hC hQ hr (rfl) (Nat.le_of_ble_eq_true rfl) (Nat.le_of_ble_eq_true rfl) dX2_copy_73 (⟨_, rfl, _, rfl, by obtain ⟨f, e, -⟩ := hI; rw [e, eν6]; exact htν2, Or.inl ⟨(kk1_0 ok), Or.inl ⟨rfl, dLike_symm.mp hd⟩, by obtain ⟨f, e, hf, -⟩ := hI; exact mRel_new hRν2 (e.trans (by rw [eν6])) hl_ (fun j hj => (hf j (by omega)).trans (hF j hj)) (fun j h1 h2 => (hf j h2).trans (hz j h1 h2))⟩⟩)
      · intro i ζ hi9 hI ih
        revert hI; generalize ζ = ν1; intro hI
        obtain ⟨f, e9, hf, hg⟩ := hI
        have hrd : mn ν1 (rI x) i = mn ν2 (rI x) i := by
          rw [e9]
          by_cases q : rI x = rI y
          · rw [q, mn_ro, hg i (Nat.le_refl i)]
          · rw [mn_rone _ _ q, eν6]; rfl
        refine gIload (pc := 41) hC dX2_copy_41 0 rfl ?_
        refine gBipush (pc := 43) hC (v := (nI 16)) dX2_copy_43 (by decide +kernel) ?_
        refine gIcmp_ge (pc := 45) hC (tgt := 72) dX2_copy_45 (by decide) (fun hc8 => absurd hc8 (nI_ge hi9 (by decide))) (fun hc8 => ?_)
        refine gAloadN (pc := 48) hC dX2_copy_48 rfl 2 rfl ?_
        refine mGetArr (pc := 49) hC 0 (a := (kn L)) (by decide) ⟨rfl, rfl, rfl⟩ hin2 hl11 dX2_copy_49 ?_
        refine gIloadN (pc := 52) hC dX2_copy_52 rfl 4 rfl ?_
        refine mRowAld (pc := 53) hC (rI y) (rfl) (hi2) dX2_copy_53 ?_
        refine gIload (pc := 54) hC dX2_copy_54 0 rfl ?_
        refine gAloadN (pc := 56) hC dX2_copy_56 rfl 2 rfl ?_
        refine mGetArr (pc := 57) hC 0 (a := (kn L)) (by decide) ⟨rfl, rfl, rfl⟩ hin2 hl11 dX2_copy_57 ?_
        refine gIloadN (pc := 60) hC dX2_copy_60 rfl 3 rfl ?_
        refine mRowAld (pc := 61) hC (rI x) (rfl) (hi) dX2_copy_61 ?_
        refine gIload (pc := 62) hC dX2_copy_62 0 rfl ?_
        refine mNumLd (pc := 64) hC (K := (rI x)) (v := (mn ν2 (rI x) i)) (by omega) i (rfl) (by omega) (hrd) dX2_copy_64 ?_
        obtain ⟨ν9, eν9⟩ : ∃ ζ : mSt, ζ = mRo ν1 (rI y) (upd (mn ν1 (rI y)) i (mn ν2 (rI x) i)) := ⟨_, rfl⟩
        refine mNumSt (pc := 65) hC (K := (rI y)) (by omega) i (rfl) (by omega) eν9 dX2_copy_65 ?_
        refine gIinc (pc := 66) hC (v := (nI (i + 1))) (lv' := [(4, .int (nI (i + 1))), (3, .int (nI 0)), (0, .ref (kx L)), (1, .int (nI (rI x))), (2, .int (nI (rI y)))]) dX2_copy_66 (q := 0) rfl (nI_1 _) (by decide) rfl ?_
        refine gGoto (pc := 69) hC (tgt := 41) dX2_copy_69 (by decide) ?_
        refine gLoc (lv' := [(4, .int (nI (i + 1))), (3, .int (nI 0)), (0, .ref (kx L)), (1, .int (nI (rI x))), (2, .int (nI (rI y)))]) [0, 1, 2, 3, 4] rfl ?_
        exact ih (ν9) (⟨upd f i (mn ν2 (rI x) i), by rw [eν9, e9, mn_ro, mRo_twice], lt_s (fun j hj => by rw [upd_ne _ _ (by omega)]; exact hf j hj) (upd_at _ _ _), fun j hj => by rw [upd_ne _ _ (by omega)]; exact hg j (by omega)⟩)
    · skip
      have hd := bI_0.mp hc5
      refine gIconst (pc := 20) hC (v := (nI 1)) dX2_copy_20 (by decide +kernel) ?_
      refine gGoto (pc := 21) hC (tgt := 25) dX2_copy_21 (by decide) ?_
      refine gIstoreN (pc := 25) hC (lv' := [(3, .int (nI 1)), (0, .ref (kx L)), (1, .int (nI (rI x))), (2, .int (nI (rI y)))]) dX2_copy_25 rfl (by decide) rfl ?_
      refine gAloadN (pc := 26) hC dX2_copy_26 rfl 1 rfl ?_
      refine mGetArr (pc := 27) hC 1 (a := (kl L)) (by decide) ⟨rfl, rfl, rfl⟩ hin2 hl14 dX2_copy_27 ?_
      refine gIloadN (pc := 30) hC dX2_copy_30 rfl 3 rfl ?_
      refine gAloadN (pc := 31) hC dX2_copy_31 rfl 1 rfl ?_
      refine mGetArr (pc := 32) hC 1 (a := (kl L)) (by decide) ⟨rfl, rfl, rfl⟩ hin2 hl14 dX2_copy_32 ?_
      refine gIloadN (pc := 35) hC dX2_copy_35 rfl 2 rfl ?_
      refine mLenLd (pc := 36) hC (v := (nI (Δ.2.1 (rI x)))) (rI x) (rfl) (hi) (hle) dX2_copy_36 ?_
      obtain ⟨ν10, eν10⟩ : ∃ ζ : mSt, ζ = mLe ν2 (upd (ml ν2) (rI y) (nI (Δ.2.1 (rI x)))) := ⟨_, rfl⟩
      refine mLenSt (pc := 37) hC (rI y) (rfl) (hi2) eν10 dX2_copy_37 ?_
      refine gIconst (pc := 38) hC (v := (nI 0)) dX2_copy_38 (by decide +kernel) ?_
      refine gIstore (pc := 39) hC (lv' := [(4, .int (nI 0)), (3, .int (nI 1)), (0, .ref (kx L)), (1, .int (nI (rI x))), (2, .int (nI (rI y)))]) dX2_copy_39 (by decide) rfl ?_
      refine gLoc (lv' := [(4, .int (nI 0)), (3, .int (nI 1)), (0, .ref (kx L)), (1, .int (nI (rI x))), (2, .int (nI (rI y)))]) [0, 1, 2, 3, 4] rfl ?_
      refine loopUp (S := mSt) (fun i ζ => gG p l e rmX2_copy s m args below meth c D A 5 0 0 Q (WM L ζ) 41 [(4, .int (nI i)), (3, .int (nI 1)), (0, .ref (kx L)), (1, .int (nI (rI x))), (2, .int (nI (rI y)))] []) (fun i ζ => ∃ f, ζ = mRo ν10 (rI y) f ∧ (∀ j, j < i → f j = mn ν2 (rI x) j) ∧ ∀ j, i ≤ j → f j = mn ν2 (rI y) j) 16 ?_ ?_ 0 (ν10) (by omega) (⟨mn ν10 (rI y), (mRo_self _ _).symm, fun j hj => absurd hj (Nat.not_lt_zero j), fun _ _ => by rw [eν10]; rfl⟩)
      · intro ζ hI
        revert hI; generalize ζ = ν1; intro hI
        refine gIload (pc := 41) hC dX2_copy_41 0 rfl ?_
        refine gBipush (pc := 43) hC (v := (nI 16)) dX2_copy_43 (by decide +kernel) ?_
        refine gIcmp_ge (pc := 45) hC (tgt := 72) dX2_copy_45 (by decide) (fun hc11 => ?_) (fun hc11 => absurd (nI_le (Nat.le_refl _) (by decide)) hc11)
        refine gIloadN (pc := 72) hC dX2_copy_72 rfl 1 rfl ?_
        exact gRetZ hC hQ hr (rfl) (Nat.le_of_ble_eq_true rfl) (Nat.le_of_ble_eq_true rfl) dX2_copy_73 (⟨_, rfl, _, rfl, by obtain ⟨f, e, -⟩ := hI; rw [e, eν10]; exact htν2, Or.inl ⟨(kk1_0 ok), Or.inr ⟨rfl, fun q => hd (dLike_symm.mp q)⟩, by obtain ⟨f, e, hf, -⟩ := hI; exact mRel_new hRν2 (e.trans (by rw [eν10])) hl_ (fun j hj => (hf j (by omega)).trans (hF j hj)) (fun j h1 h2 => (hf j h2).trans (hz j h1 h2))⟩⟩)
      · intro i ζ hi9 hI ih
        revert hI; generalize ζ = ν1; intro hI
        obtain ⟨f, e9, hf, hg⟩ := hI
        have hrd : mn ν1 (rI x) i = mn ν2 (rI x) i := by
          rw [e9]
          by_cases q : rI x = rI y
          · rw [q, mn_ro, hg i (Nat.le_refl i)]
          · rw [mn_rone _ _ q, eν10]; rfl
        refine gIload (pc := 41) hC dX2_copy_41 0 rfl ?_
        refine gBipush (pc := 43) hC (v := (nI 16)) dX2_copy_43 (by decide +kernel) ?_
        refine gIcmp_ge (pc := 45) hC (tgt := 72) dX2_copy_45 (by decide) (fun hc12 => absurd hc12 (nI_ge hi9 (by decide))) (fun hc12 => ?_)
        refine gAloadN (pc := 48) hC dX2_copy_48 rfl 2 rfl ?_
        refine mGetArr (pc := 49) hC 0 (a := (kn L)) (by decide) ⟨rfl, rfl, rfl⟩ hin2 hl11 dX2_copy_49 ?_
        refine gIloadN (pc := 52) hC dX2_copy_52 rfl 4 rfl ?_
        refine mRowAld (pc := 53) hC (rI y) (rfl) (hi2) dX2_copy_53 ?_
        refine gIload (pc := 54) hC dX2_copy_54 0 rfl ?_
        refine gAloadN (pc := 56) hC dX2_copy_56 rfl 2 rfl ?_
        refine mGetArr (pc := 57) hC 0 (a := (kn L)) (by decide) ⟨rfl, rfl, rfl⟩ hin2 hl11 dX2_copy_57 ?_
        refine gIloadN (pc := 60) hC dX2_copy_60 rfl 3 rfl ?_
        refine mRowAld (pc := 61) hC (rI x) (rfl) (hi) dX2_copy_61 ?_
        refine gIload (pc := 62) hC dX2_copy_62 0 rfl ?_
        refine mNumLd (pc := 64) hC (K := (rI x)) (v := (mn ν2 (rI x) i)) (by omega) i (rfl) (by omega) (hrd) dX2_copy_64 ?_
        obtain ⟨ν13, eν13⟩ : ∃ ζ : mSt, ζ = mRo ν1 (rI y) (upd (mn ν1 (rI y)) i (mn ν2 (rI x) i)) := ⟨_, rfl⟩
        refine mNumSt (pc := 65) hC (K := (rI y)) (by omega) i (rfl) (by omega) eν13 dX2_copy_65 ?_
        refine gIinc (pc := 66) hC (v := (nI (i + 1))) (lv' := [(4, .int (nI (i + 1))), (3, .int (nI 1)), (0, .ref (kx L)), (1, .int (nI (rI x))), (2, .int (nI (rI y)))]) dX2_copy_66 (q := 0) rfl (nI_1 _) (by decide) rfl ?_
        refine gGoto (pc := 69) hC (tgt := 41) dX2_copy_69 (by decide) ?_
        refine gLoc (lv' := [(4, .int (nI (i + 1))), (3, .int (nI 1)), (0, .ref (kx L)), (1, .int (nI (rI x))), (2, .int (nI (rI y)))]) [0, 1, 2, 3, 4] rfl ?_
        exact ih (ν13) (⟨upd f i (mn ν2 (rI x) i), by rw [eν13, e9, mn_ro, mRo_twice], lt_s (fun j hj => by rw [upd_ne _ _ (by omega)]; exact hf j hj) (upd_at _ _ _), fun j hj => by rw [upd_ne _ _ (by omega)]; exact hg j (by omega)⟩)
  · skip
    have nok : ¬ (okR x ∧ okR y) := bI_n.mp hc1
    refine gIconst (pc := 9) hC (v := (nI 0)) dX2_copy_9 (by decide +kernel) ?_
    exact gRetZ hC hQ hr (by first | rfl | exact bI_ret) (Nat.le_of_ble_eq_true rfl) (Nat.le_of_ble_eq_true rfl) dX2_copy_10 (⟨_, rfl, _, rfl, by rw [kk1_1 nok]; exact thr_f nok, Or.inr ⟨kne (kk1_1 nok) ne1, hR⟩⟩)

abbrev rmX2_length : Room := { frames := 2, cells := 0, slots := 0, locals := 43 }
set_option maxRecDepth 100000 in
set_option maxHeartbeats 4000000 in
theorem c_X2_length (l : Launch) (D : va_G) (L : mLay) (μ : mSt) (Δ : dSt) (x : Int32) (hR : mRel μ Δ) : gM l yX2_length wsX2_length rmX2_length D (mTy L) (WM L μ) [.ref (kx L), .int x] 0 0 (fun r w => mPost L Δ Δ (kk1 (okR x)) (fun b => b = nI (Δ.2.1 (rI x))) r w) := by
  refine gM.of (cc := cX2_length) (maxL := 2) (ret := (some .int)) (own := RX2) (by decide) rfl rfl (Nat.le_of_ble_eq_true rfl) rfl ?_
  intro p e s m args below meth c A Q hC hr hnm hQ
  have hin2 : ∀ w ∈ u_ws RX2 TX2 6, w ∈ wsX2_length := by decide +kernel
  have hl14 : Cond.fieldLink RX2 14 "RootrowsModel" "lengths" "[I" ∈ wsX2_length := by decide +kernel
  refine gAloadN (pc := 0) hC dX2_length_0 rfl 0 rfl ?_
  refine gIloadN (pc := 1) hC dX2_length_1 rfl 1 rfl ?_
  refine gV (pc := 2) (rest := []) (ci := 2) (q0 := 0) hC (c_X2_lacks l D L μ x) rfl rfl (cwV 1 hC.2.2.2.2.1 gX2_length_X2_lacks rfl rfl rfl (by decide +kernel) ⟨Nat.le_of_ble_eq_true rfl, Nat.le_of_ble_eq_true rfl⟩) rfl rfl (Nat.le_of_ble_eq_true rfl) dX2_length_2 ⟨Nat.le_of_ble_eq_true rfl, Nat.le_of_ble_eq_true rfl⟩ (fun v w1 hp => ?_)
  obtain ⟨rfl, rfl⟩ := hp
  refine gStk (st' := [.int (bI (¬ (okR x)))]) (pc' := 5) rfl rfl ?_
  refine gIf_eq (pc := 5) hC (tgt := 12) dX2_length_5 (by decide) (fun hc1 => ?_) (fun hc1 => ?_)
  · skip
    have ok : okR x := nn (bI_0.mp hc1)
    obtain ⟨ν2, eν2, hRν2, htν2⟩ : ∃ ζ : mSt, ζ = (mTh μ (if okR x then nI 0 else nI 1)) ∧ mRel ζ Δ ∧ mt ζ = nI (kk1 (okR x)) := ⟨_, rfl, hR, (by rw [kk1_0 ok]; exact thr_t ok)⟩
    refine gWs (ws' := WM L ν2) (by first | (rw [eν2]; done) | (rw [eν2]; rfl)) ?_
    obtain ⟨hi, ei⟩ := ok.get
    have hl_ := hRν2.okl hi
    have hle := hRν2.len hi
    have hF := hRν2.is hi
    have hz := hRν2.zer hi
    have hN := hl_.N
    have hL := hN.le
    have hp := hN.pos
    have hx3 : Value.int x = Value.int (nI (rI x)) := congrArg Value.int ei
    refine gLocE (lv' := [(0, .ref (kx L)), (1, .int (nI (rI x)))]) (by first | (rw [← hx3]; done) | (rw [← hx3]; rfl)) ?_
    refine gAloadN (pc := 12) hC dX2_length_12 rfl 0 rfl ?_
    refine mGetArr (pc := 13) hC 1 (a := (kl L)) (by decide) ⟨rfl, rfl, rfl⟩ hin2 hl14 dX2_length_13 ?_
    refine gIloadN (pc := 16) hC dX2_length_16 rfl 1 rfl ?_
    refine mLenLd (pc := 17) hC (v := (nI (Δ.2.1 (rI x)))) (rI x) (rfl) (hi) (hle) dX2_length_17 ?_
    exact gRetI hC hQ hr (Nat.le_of_ble_eq_true rfl) (Nat.le_of_ble_eq_true rfl) dX2_length_18 (⟨_, rfl, _, rfl, htν2, Or.inl ⟨(kk1_0 ok), rfl, hRν2⟩⟩)
  · skip
    have nok : ¬ (okR x) := bI_n.mp hc1
    refine gIconst (pc := 8) hC (v := (nI 0)) dX2_length_8 (by decide +kernel) ?_
    refine gGoto (pc := 9) hC (tgt := 18) dX2_length_9 (by decide) ?_
    exact gRetI hC hQ hr (Nat.le_of_ble_eq_true rfl) (Nat.le_of_ble_eq_true rfl) dX2_length_18 (⟨_, rfl, _, rfl, by rw [kk1_1 nok]; exact thr_f nok, Or.inr ⟨kne (kk1_1 nok) ne1, hR⟩⟩)

abbrev rmX2_number : Room := { frames := 2, cells := 0, slots := 0, locals := 44 }
set_option maxRecDepth 100000 in
set_option maxHeartbeats 4000000 in
theorem c_X2_number (l : Launch) (D : va_G) (L : mLay) (μ : mSt) (Δ : dSt) (x : Int32) (y : Int32) (hR : mRel μ Δ) : gM l yX2_number wsX2_number rmX2_number D (mTy L) (WM L μ) [.ref (kx L), .int x, .int y] 0 0 (fun r w => mPost L Δ Δ (kk1 (okR x ∧ okP y (Δ.2.1 (rI x)))) (fun b => b = nI ((Δ.2.2 (rI x)) (rI y)).val) r w) := by
  refine gM.of (cc := cX2_number) (maxL := 3) (ret := (some .int)) (own := RX2) (by decide) rfl rfl (Nat.le_of_ble_eq_true rfl) rfl ?_
  intro p e s m args below meth c A Q hC hr hnm hQ
  have hin2 : ∀ w ∈ u_ws RX2 TX2 6, w ∈ wsX2_number := by decide +kernel
  have hl11 : Cond.fieldLink RX2 11 "RootrowsModel" "numbers" "[[I" ∈ wsX2_number := by decide +kernel
  refine gAloadN (pc := 0) hC dX2_number_0 rfl 0 rfl ?_
  refine gIloadN (pc := 1) hC dX2_number_1 rfl 1 rfl ?_
  refine gIloadN (pc := 2) hC dX2_number_2 rfl 2 rfl ?_
  refine gV (pc := 3) (rest := []) (ci := 2) (q0 := 0) hC (c_X2_lacksPlace l D L μ Δ x y hR) rfl rfl (cwV 2 hC.2.2.2.2.1 gX2_number_X2_lacksPlace rfl rfl rfl (by decide +kernel) ⟨Nat.le_of_ble_eq_true rfl, Nat.le_of_ble_eq_true rfl⟩) rfl rfl (Nat.le_of_ble_eq_true rfl) dX2_number_3 ⟨Nat.le_of_ble_eq_true rfl, Nat.le_of_ble_eq_true rfl⟩ (fun v w1 hp => ?_)
  obtain ⟨rfl, rfl⟩ := hp
  refine gStk (st' := [.int (bI (¬ (okR x ∧ okP y (Δ.2.1 (rI x)))))]) (pc' := 6) rfl rfl ?_
  refine gIf_eq (pc := 6) hC (tgt := 13) dX2_number_6 (by decide) (fun hc1 => ?_) (fun hc1 => ?_)
  · skip
    have ok : (okR x ∧ okP y (Δ.2.1 (rI x))) := nn (bI_0.mp hc1)
    obtain ⟨ν2, eν2, hRν2, htν2⟩ : ∃ ζ : mSt, ζ = (mTh μ (if (okR x ∧ okP y (Δ.2.1 (rI x))) then nI 0 else nI 1)) ∧ mRel ζ Δ ∧ mt ζ = nI (kk1 (okR x ∧ okP y (Δ.2.1 (rI x)))) := ⟨_, rfl, hR, (by rw [kk1_0 ok]; exact thr_t ok)⟩
    refine gWs (ws' := WM L ν2) (by first | (rw [eν2]; done) | (rw [eν2]; rfl)) ?_
    obtain ⟨hi, ei⟩ := ok.1.get
    have hl_ := hRν2.okl hi
    have hle := hRν2.len hi
    have hF := hRν2.is hi
    have hz := hRν2.zer hi
    have hN := hl_.N
    have hL := hN.le
    have hp := hN.pos
    have hx3 : Value.int x = Value.int (nI (rI x)) := congrArg Value.int ei
    refine gLocE (lv' := [(0, .ref (kx L)), (1, .int (nI (rI x))), (2, .int y)]) (by first | (rw [← hx3]; done) | (rw [← hx3]; rfl)) ?_
    obtain ⟨hp9, ep9⟩ := ok.2.get (by omega)
    have hx4 : Value.int y = Value.int (nI (rI y)) := congrArg Value.int ep9
    refine gLocE (lv' := [(0, .ref (kx L)), (1, .int (nI (rI x))), (2, .int (nI (rI y)))]) (by first | (rw [← hx4]; done) | (rw [← hx4]; rfl)) ?_
    refine gAloadN (pc := 13) hC dX2_number_13 rfl 0 rfl ?_
    refine mGetArr (pc := 14) hC 0 (a := (kn L)) (by decide) ⟨rfl, rfl, rfl⟩ hin2 hl11 dX2_number_14 ?_
    refine gIloadN (pc := 17) hC dX2_number_17 rfl 1 rfl ?_
    refine mRowAld (pc := 18) hC (rI x) (rfl) (hi) dX2_number_18 ?_
    refine gIloadN (pc := 19) hC dX2_number_19 rfl 2 rfl ?_
    refine mNumLd (pc := 20) hC (K := (rI x)) (v := (nI ((Δ.2.2 (rI x)) (rI y)).val)) (by omega) (rI y) (rfl) (by omega) (hF _ (by omega)) dX2_number_20 ?_
    exact gRetI hC hQ hr (Nat.le_of_ble_eq_true rfl) (Nat.le_of_ble_eq_true rfl) dX2_number_21 (⟨_, rfl, _, rfl, htν2, Or.inl ⟨(kk1_0 ok), rfl, hRν2⟩⟩)
  · skip
    have nok : ¬ (okR x ∧ okP y (Δ.2.1 (rI x))) := bI_n.mp hc1
    refine gIconst (pc := 9) hC (v := (nI 0)) dX2_number_9 (by decide +kernel) ?_
    refine gGoto (pc := 10) hC (tgt := 21) dX2_number_10 (by decide) ?_
    exact gRetI hC hQ hr (Nat.le_of_ble_eq_true rfl) (Nat.le_of_ble_eq_true rfl) dX2_number_21 (⟨_, rfl, _, rfl, by rw [kk1_1 nok]; exact thr_f nok, Or.inr ⟨kne (kk1_1 nok) ne1, hR⟩⟩)

abbrev rmX2_useOdd : Room := { frames := 1, cells := 0, slots := 0, locals := 22 }
set_option maxRecDepth 100000 in
set_option maxHeartbeats 4000000 in
theorem c_X2_useOdd (l : Launch) (D : va_G) (L : mLay) (μ : mSt) (Δ : dSt) (x : Int32) (hR : mRel μ Δ) : gM l yX2_useOdd wsX2_useOdd rmX2_useOdd D (mTy L) (WM L μ) [.ref (kx L), .int x] 0 0 (fun r w => mPost L Δ (rI x, Δ.2) (kk1 (¬ x < nI 1 ∧ ¬ nI 31 < x ∧ ¬ x &&& nI 1 = 0)) (fun b => b = nI Δ.1) r w) := by
  refine gM.of (cc := cX2_useOdd) (maxL := 3) (ret := (some .int)) (own := RX2) (by decide) rfl rfl (Nat.le_of_ble_eq_true rfl) rfl ?_
  intro p e s m args below meth c A Q hC hr hnm hQ
  have hin2 : ∀ w ∈ u_ws RX2 TX2 6, w ∈ wsX2_useOdd := by decide +kernel
  have hl24 : Cond.fieldLink RX2 24 "RootrowsModel" "odd" "I" ∈ wsX2_useOdd := by decide +kernel
  refine gAloadN (pc := 0) hC dX2_useOdd_0 rfl 0 rfl ?_
  refine gIloadN (pc := 1) hC dX2_useOdd_1 rfl 1 rfl ?_
  refine gIconst (pc := 2) hC (v := (nI 1)) dX2_useOdd_2 (by decide +kernel) ?_
  refine gBipush (pc := 3) hC (v := (nI 31)) dX2_useOdd_3 (by decide +kernel) ?_
  refine gS (pc := 5) (rest := [.ref (kx L)]) hC (c_X2_in l D _ _ x (nI 1) (nI 31)) (va_cwS 3 hC.2.2.2.2.1 gX2_useOdd_X2_in rfl rfl rfl (by decide +kernel) ⟨Nat.le_of_ble_eq_true rfl, Nat.le_of_ble_eq_true rfl⟩) rfl rfl (Nat.le_of_ble_eq_true rfl) dX2_useOdd_5 ⟨Nat.le_of_ble_eq_true rfl, Nat.le_of_ble_eq_true rfl⟩ (fun v w1 hp => ?_)
  obtain ⟨rfl, rfl⟩ := hp
  refine gStk (st' := [.int (bI (¬ x < nI 1 ∧ ¬ nI 31 < x)), .ref (kx L)]) (pc' := 8) rfl rfl ?_
  refine gIf_eq (pc := 8) hC (tgt := 22) dX2_useOdd_8 (by decide) (fun hc1 => ?_) (fun hc1 => ?_)
  · skip
    refine gIconst (pc := 22) hC (v := (nI 0)) dX2_useOdd_22 (by decide +kernel) ?_
    refine gStk (st' := [.int (bI (¬ x < nI 1 ∧ ¬ nI 31 < x ∧ ¬ x &&& nI 1 = 0)), .ref (kx L)]) (pc' := 23) (by rw [bI_f (fun q => bI_0.mp hc1 ⟨q.1, q.2.1⟩)]) rfl ?_
    refine gIconst (pc := 23) hC (v := (nI 1)) dX2_useOdd_23 (by decide +kernel) ?_
    refine gV (pc := 24) (rest := []) (ci := 2) (q0 := 0) hC (c_X2_no l D L μ (¬ x < nI 1 ∧ ¬ nI 31 < x ∧ ¬ x &&& nI 1 = 0) (nI 1)) rfl rfl (cwV 2 hC.2.2.2.2.1 gX2_useOdd_X2_no rfl rfl rfl (by decide +kernel) ⟨Nat.le_of_ble_eq_true rfl, Nat.le_of_ble_eq_true rfl⟩) rfl rfl (Nat.le_of_ble_eq_true rfl) dX2_useOdd_24 ⟨Nat.le_of_ble_eq_true rfl, Nat.le_of_ble_eq_true rfl⟩ (fun v w1 hp => ?_)
    obtain ⟨rfl, rfl⟩ := hp
    refine gStk (st' := [.int (bI (¬ (¬ x < nI 1 ∧ ¬ nI 31 < x ∧ ¬ x &&& nI 1 = 0)))]) (pc' := 27) rfl rfl ?_
    refine gIf_eq (pc := 27) hC (tgt := 32) dX2_useOdd_27 (by decide) (fun hc2 => ?_) (fun hc2 => ?_)
    · skip
      have ok : (¬ x < nI 1 ∧ ¬ nI 31 < x ∧ ¬ x &&& nI 1 = 0) := nn (bI_0.mp hc2)
      obtain ⟨ν3, eν3, hRν3, htν3⟩ : ∃ ζ : mSt, ζ = (mTh μ (if (¬ x < nI 1 ∧ ¬ nI 31 < x ∧ ¬ x &&& nI 1 = 0) then nI 0 else nI 1)) ∧ mRel ζ Δ ∧ mt ζ = nI (kk1 (¬ x < nI 1 ∧ ¬ nI 31 < x ∧ ¬ x &&& nI 1 = 0)) := ⟨_, rfl, hR, (by rw [kk1_0 ok]; exact thr_t ok)⟩
      refine gWs (ws' := WM L ν3) (by first | (rw [eν3]; done) | (rw [eν3]; rfl)) ?_
      obtain ⟨hq, eq⟩ := odd_get ok
      refine gAloadN (pc := 32) hC dX2_useOdd_32 rfl 0 rfl ?_
      refine mGetInt (pc := 33) hC 4 (v := (nI Δ.1)) (by decide) ⟨rfl, congrArg (fun z => some (Value.int z)) (hRν3.1)⟩ hin2 hl24 dX2_useOdd_33 ?_
      refine gIstoreN (pc := 36) hC (lv' := [(2, .int (nI Δ.1)), (0, .ref (kx L)), (1, .int x)]) dX2_useOdd_36 rfl (by decide) rfl ?_
      refine gAloadN (pc := 37) hC dX2_useOdd_37 rfl 1 rfl ?_
      refine gIloadN (pc := 38) hC dX2_useOdd_38 rfl 2 rfl ?_
      refine mPutOdd (pc := 39) hC hin2 hl24 dX2_useOdd_39 ?_
      refine gIloadN (pc := 42) hC dX2_useOdd_42 rfl 0 rfl ?_
      exact gRetI hC hQ hr (Nat.le_of_ble_eq_true rfl) (Nat.le_of_ble_eq_true rfl) dX2_useOdd_43 (⟨_, rfl, _, rfl, htν3, Or.inl ⟨(kk1_0 ok), rfl, ⟨eq, hq, hRν3.2.2⟩⟩⟩)
    · skip
      have nok : ¬ (¬ x < nI 1 ∧ ¬ nI 31 < x ∧ ¬ x &&& nI 1 = 0) := bI_n.mp hc2
      refine gIconst (pc := 30) hC (v := (nI 0)) dX2_useOdd_30 (by decide +kernel) ?_
      exact gRetI hC hQ hr (Nat.le_of_ble_eq_true rfl) (Nat.le_of_ble_eq_true rfl) dX2_useOdd_31 (⟨_, rfl, _, rfl, by rw [kk1_1 nok]; exact thr_f nok, Or.inr ⟨kne (kk1_1 nok) ne1, hR⟩⟩)
  · skip
    have hin := bI_n.mp hc1
    refine gIloadN (pc := 11) hC dX2_useOdd_11 rfl 1 rfl ?_
    refine gIconst (pc := 12) hC (v := (nI 2)) dX2_useOdd_12 (by decide +kernel) ?_
    refine gIrem (pc := 13) hC dX2_useOdd_13 (by decide) rfl ?_
    refine gIconst (pc := 14) hC (v := (nI 1)) dX2_useOdd_14 (by decide +kernel) ?_
    refine gIcmp_ne (pc := 15) hC (tgt := 22) dX2_useOdd_15 (by decide) (fun hc4 => ?_) (fun hc4 => ?_)
    · skip
      refine gIconst (pc := 22) hC (v := (nI 0)) dX2_useOdd_22 (by decide +kernel) ?_
      refine gStk (st' := [.int (bI (¬ x < nI 1 ∧ ¬ nI 31 < x ∧ ¬ x &&& nI 1 = 0)), .ref (kx L)]) (pc' := 23) (by rw [bI_f (fun q => hc4 ((odd_rem hin).mpr q.2.2))]) rfl ?_
      refine gIconst (pc := 23) hC (v := (nI 1)) dX2_useOdd_23 (by decide +kernel) ?_
      refine gV (pc := 24) (rest := []) (ci := 2) (q0 := 0) hC (c_X2_no l D L μ (¬ x < nI 1 ∧ ¬ nI 31 < x ∧ ¬ x &&& nI 1 = 0) (nI 1)) rfl rfl (cwV 2 hC.2.2.2.2.1 gX2_useOdd_X2_no rfl rfl rfl (by decide +kernel) ⟨Nat.le_of_ble_eq_true rfl, Nat.le_of_ble_eq_true rfl⟩) rfl rfl (Nat.le_of_ble_eq_true rfl) dX2_useOdd_24 ⟨Nat.le_of_ble_eq_true rfl, Nat.le_of_ble_eq_true rfl⟩ (fun v w1 hp => ?_)
      obtain ⟨rfl, rfl⟩ := hp
      refine gStk (st' := [.int (bI (¬ (¬ x < nI 1 ∧ ¬ nI 31 < x ∧ ¬ x &&& nI 1 = 0)))]) (pc' := 27) rfl rfl ?_
      refine gIf_eq (pc := 27) hC (tgt := 32) dX2_useOdd_27 (by decide) (fun hc5 => ?_) (fun hc5 => ?_)
      · skip
        have ok : (¬ x < nI 1 ∧ ¬ nI 31 < x ∧ ¬ x &&& nI 1 = 0) := nn (bI_0.mp hc5)
        obtain ⟨ν6, eν6, hRν6, htν6⟩ : ∃ ζ : mSt, ζ = (mTh μ (if (¬ x < nI 1 ∧ ¬ nI 31 < x ∧ ¬ x &&& nI 1 = 0) then nI 0 else nI 1)) ∧ mRel ζ Δ ∧ mt ζ = nI (kk1 (¬ x < nI 1 ∧ ¬ nI 31 < x ∧ ¬ x &&& nI 1 = 0)) := ⟨_, rfl, hR, (by rw [kk1_0 ok]; exact thr_t ok)⟩
        refine gWs (ws' := WM L ν6) (by first | (rw [eν6]; done) | (rw [eν6]; rfl)) ?_
        obtain ⟨hq, eq⟩ := odd_get ok
        refine gAloadN (pc := 32) hC dX2_useOdd_32 rfl 0 rfl ?_
        refine mGetInt (pc := 33) hC 4 (v := (nI Δ.1)) (by decide) ⟨rfl, congrArg (fun z => some (Value.int z)) (hRν6.1)⟩ hin2 hl24 dX2_useOdd_33 ?_
        refine gIstoreN (pc := 36) hC (lv' := [(2, .int (nI Δ.1)), (0, .ref (kx L)), (1, .int x)]) dX2_useOdd_36 rfl (by decide) rfl ?_
        refine gAloadN (pc := 37) hC dX2_useOdd_37 rfl 1 rfl ?_
        refine gIloadN (pc := 38) hC dX2_useOdd_38 rfl 2 rfl ?_
        refine mPutOdd (pc := 39) hC hin2 hl24 dX2_useOdd_39 ?_
        refine gIloadN (pc := 42) hC dX2_useOdd_42 rfl 0 rfl ?_
        exact gRetI hC hQ hr (Nat.le_of_ble_eq_true rfl) (Nat.le_of_ble_eq_true rfl) dX2_useOdd_43 (⟨_, rfl, _, rfl, htν6, Or.inl ⟨(kk1_0 ok), rfl, ⟨eq, hq, hRν6.2.2⟩⟩⟩)
      · skip
        have nok : ¬ (¬ x < nI 1 ∧ ¬ nI 31 < x ∧ ¬ x &&& nI 1 = 0) := bI_n.mp hc5
        refine gIconst (pc := 30) hC (v := (nI 0)) dX2_useOdd_30 (by decide +kernel) ?_
        exact gRetI hC hQ hr (Nat.le_of_ble_eq_true rfl) (Nat.le_of_ble_eq_true rfl) dX2_useOdd_31 (⟨_, rfl, _, rfl, by rw [kk1_1 nok]; exact thr_f nok, Or.inr ⟨kne (kk1_1 nok) ne1, hR⟩⟩)
    · skip
      refine gIconst (pc := 18) hC (v := (nI 1)) dX2_useOdd_18 (by decide +kernel) ?_
      refine gGoto (pc := 19) hC (tgt := 23) dX2_useOdd_19 (by decide) ?_
      refine gStk (st' := [.int (bI (¬ x < nI 1 ∧ ¬ nI 31 < x ∧ ¬ x &&& nI 1 = 0)), .ref (kx L)]) (pc' := 23) (by rw [bI_t ⟨hin.1, hin.2, (odd_rem hin).mp hc4⟩]) rfl ?_
      refine gIconst (pc := 23) hC (v := (nI 1)) dX2_useOdd_23 (by decide +kernel) ?_
      refine gV (pc := 24) (rest := []) (ci := 2) (q0 := 0) hC (c_X2_no l D L μ (¬ x < nI 1 ∧ ¬ nI 31 < x ∧ ¬ x &&& nI 1 = 0) (nI 1)) rfl rfl (cwV 2 hC.2.2.2.2.1 gX2_useOdd_X2_no rfl rfl rfl (by decide +kernel) ⟨Nat.le_of_ble_eq_true rfl, Nat.le_of_ble_eq_true rfl⟩) rfl rfl (Nat.le_of_ble_eq_true rfl) dX2_useOdd_24 ⟨Nat.le_of_ble_eq_true rfl, Nat.le_of_ble_eq_true rfl⟩ (fun v w1 hp => ?_)
      obtain ⟨rfl, rfl⟩ := hp
      refine gStk (st' := [.int (bI (¬ (¬ x < nI 1 ∧ ¬ nI 31 < x ∧ ¬ x &&& nI 1 = 0)))]) (pc' := 27) rfl rfl ?_
      refine gIf_eq (pc := 27) hC (tgt := 32) dX2_useOdd_27 (by decide) (fun hc7 => ?_) (fun hc7 => ?_)
      · skip
        have ok : (¬ x < nI 1 ∧ ¬ nI 31 < x ∧ ¬ x &&& nI 1 = 0) := nn (bI_0.mp hc7)
        obtain ⟨ν8, eν8, hRν8, htν8⟩ : ∃ ζ : mSt, ζ = (mTh μ (if (¬ x < nI 1 ∧ ¬ nI 31 < x ∧ ¬ x &&& nI 1 = 0) then nI 0 else nI 1)) ∧ mRel ζ Δ ∧ mt ζ = nI (kk1 (¬ x < nI 1 ∧ ¬ nI 31 < x ∧ ¬ x &&& nI 1 = 0)) := ⟨_, rfl, hR, (by rw [kk1_0 ok]; exact thr_t ok)⟩
        refine gWs (ws' := WM L ν8) (by first | (rw [eν8]; done) | (rw [eν8]; rfl)) ?_
        obtain ⟨hq, eq⟩ := odd_get ok
        refine gAloadN (pc := 32) hC dX2_useOdd_32 rfl 0 rfl ?_
        refine mGetInt (pc := 33) hC 4 (v := (nI Δ.1)) (by decide) ⟨rfl, congrArg (fun z => some (Value.int z)) (hRν8.1)⟩ hin2 hl24 dX2_useOdd_33 ?_
        refine gIstoreN (pc := 36) hC (lv' := [(2, .int (nI Δ.1)), (0, .ref (kx L)), (1, .int x)]) dX2_useOdd_36 rfl (by decide) rfl ?_
        refine gAloadN (pc := 37) hC dX2_useOdd_37 rfl 1 rfl ?_
        refine gIloadN (pc := 38) hC dX2_useOdd_38 rfl 2 rfl ?_
        refine mPutOdd (pc := 39) hC hin2 hl24 dX2_useOdd_39 ?_
        refine gIloadN (pc := 42) hC dX2_useOdd_42 rfl 0 rfl ?_
        exact gRetI hC hQ hr (Nat.le_of_ble_eq_true rfl) (Nat.le_of_ble_eq_true rfl) dX2_useOdd_43 (⟨_, rfl, _, rfl, htν8, Or.inl ⟨(kk1_0 ok), rfl, ⟨eq, hq, hRν8.2.2⟩⟩⟩)
      · skip
        have nok : ¬ (¬ x < nI 1 ∧ ¬ nI 31 < x ∧ ¬ x &&& nI 1 = 0) := bI_n.mp hc7
        refine gIconst (pc := 30) hC (v := (nI 0)) dX2_useOdd_30 (by decide +kernel) ?_
        exact gRetI hC hQ hr (Nat.le_of_ble_eq_true rfl) (Nat.le_of_ble_eq_true rfl) dX2_useOdd_31 (⟨_, rfl, _, rfl, by rw [kk1_1 nok]; exact thr_f nok, Or.inr ⟨kne (kk1_1 nok) ne1, hR⟩⟩)

abbrev rmX2_power : Room := { frames := 2, cells := 0, slots := 0, locals := 46 }
set_option maxRecDepth 100000 in
set_option maxHeartbeats 4000000 in
theorem c_X2_power (l : Launch) (D : va_G) (L : mLay) (μ : mSt) (Δ : dSt) (x : Int32) (y : Int32) (hR : mRel μ Δ) : gM l yX2_power wsX2_power rmX2_power D (mTy L) (WM L μ) [.ref (kx L), .int x, .int y] 0 0 (fun r w => mPost L Δ Δ (kk1 (okLI x)) (fun b => b = nI (pz (un Δ.1 (rI x) * y.toInt)).val) r w) := by
  refine gM.of (cc := cX2_power) (maxL := 3) (ret := (some .int)) (own := RX2) (by decide) rfl rfl (Nat.le_of_ble_eq_true rfl) rfl ?_
  intro p e s m args below meth c A Q hC hr hnm hQ
  refine gAloadN (pc := 0) hC dX2_power_0 rfl 0 rfl ?_
  refine gIloadN (pc := 1) hC dX2_power_1 rfl 1 rfl ?_
  refine gS (pc := 2) (rest := [.ref (kx L)]) hC (c_X2_isLength l D _ _ x) (va_cwS 1 hC.2.2.2.2.1 gX2_power_X2_isLength rfl rfl rfl (by decide +kernel) ⟨Nat.le_of_ble_eq_true rfl, Nat.le_of_ble_eq_true rfl⟩) rfl rfl (Nat.le_of_ble_eq_true rfl) dX2_power_2 ⟨Nat.le_of_ble_eq_true rfl, Nat.le_of_ble_eq_true rfl⟩ (fun v w1 hp => ?_)
  obtain ⟨rfl, rfl⟩ := hp
  refine gStk (st' := [.int (bI (okLI x)), .ref (kx L)]) (pc' := 5) rfl rfl ?_
  refine gIconst (pc := 5) hC (v := (nI 1)) dX2_power_5 (by decide +kernel) ?_
  refine gV (pc := 6) (rest := []) (ci := 2) (q0 := 0) hC (c_X2_no l D L μ (okLI x) (nI 1)) rfl rfl (cwV 2 hC.2.2.2.2.1 gX2_power_X2_no rfl rfl rfl (by decide +kernel) ⟨Nat.le_of_ble_eq_true rfl, Nat.le_of_ble_eq_true rfl⟩) rfl rfl (Nat.le_of_ble_eq_true rfl) dX2_power_6 ⟨Nat.le_of_ble_eq_true rfl, Nat.le_of_ble_eq_true rfl⟩ (fun v w1 hp => ?_)
  obtain ⟨rfl, rfl⟩ := hp
  refine gStk (st' := [.int (bI (¬ okLI x))]) (pc' := 9) rfl rfl ?_
  refine gIf_eq (pc := 9) hC (tgt := 16) dX2_power_9 (by decide) (fun hc1 => ?_) (fun hc1 => ?_)
  · skip
    have ok : okLI x := nn (bI_0.mp hc1)
    obtain ⟨ν2, eν2, hRν2, htν2⟩ : ∃ ζ : mSt, ζ = (mTh μ (if okLI x then nI 0 else nI 1)) ∧ mRel ζ Δ ∧ mt ζ = nI (kk1 (okLI x)) := ⟨_, rfl, hR, (by rw [kk1_0 ok]; exact thr_t ok)⟩
    refine gWs (ws' := WM L ν2) (by first | (rw [eν2]; done) | (rw [eν2]; rfl)) ?_
    obtain ⟨hy, ey⟩ := ok.get
    have hx3 : Value.int x = Value.int (nI (rI x)) := congrArg Value.int ey
    refine gLocE (lv' := [(0, .ref (kx L)), (1, .int (nI (rI x))), (2, .int y)]) (by first | (rw [← hx3]; done) | (rw [← hx3]; rfl)) ?_
    refine gIconst (pc := 16) hC (v := (nI 1)) dX2_power_16 (by decide +kernel) ?_
    refine gAloadN (pc := 17) hC dX2_power_17 rfl 0 rfl ?_
    refine gIloadN (pc := 18) hC dX2_power_18 rfl 1 rfl ?_
    refine gIloadN (pc := 19) hC dX2_power_19 rfl 2 rfl ?_
    refine gI2l (pc := 20) hC dX2_power_20 rfl ?_
    refine gV (pc := 21) (rest := [.int (nI 1)]) (ci := 2) (q0 := 0) hC (c_X2_exponent l D L ν2 (rI x) Δ.1 _ _ hy.N hRν2.1 hRν2.2.1.2 (i64_of y)) rfl rfl (cwV 2 hC.2.2.2.2.1 gX2_power_X2_exponent rfl rfl rfl (by decide +kernel) ⟨Nat.le_of_ble_eq_true rfl, Nat.le_of_ble_eq_true rfl⟩) rfl rfl (Nat.le_of_ble_eq_true rfl) dX2_power_21 ⟨Nat.le_of_ble_eq_true rfl, Nat.le_of_ble_eq_true rfl⟩ (fun v w1 hp => ?_)
    obtain ⟨rfl, rfl⟩ := hp
    refine gStk (st' := [.int (nI (xp Δ.1 (rI x) y.toInt)), .int (nI 1)]) (pc' := 24) rfl rfl ?_
    refine gS (pc := 24) (rest := []) hC (c_X2_doubled l D _ _ _ 1 _ rfl (xp_lt _ _ _)) (va_cwS 2 hC.2.2.2.2.1 gX2_power_X2_doubled rfl rfl rfl (by decide +kernel) ⟨Nat.le_of_ble_eq_true rfl, Nat.le_of_ble_eq_true rfl⟩) rfl rfl (Nat.le_of_ble_eq_true rfl) dX2_power_24 ⟨Nat.le_of_ble_eq_true rfl, Nat.le_of_ble_eq_true rfl⟩ (fun v w1 hp => ?_)
    obtain ⟨rfl, rfl⟩ := hp
    refine gStk (st' := [.int (nI (1 * pw (xp Δ.1 (rI x) y.toInt)).val)]) (pc' := 27) rfl rfl ?_
    exact gRetI hC hQ hr (Nat.le_of_ble_eq_true rfl) (Nat.le_of_ble_eq_true rfl) dX2_power_27 (⟨_, rfl, _, rfl, htν2, Or.inl ⟨(kk1_0 ok), by rw [fr_1m, xp_pw hy.N], hRν2⟩⟩)
  · skip
    have nok : ¬ (okLI x) := bI_n.mp hc1
    refine gIconst (pc := 12) hC (v := (nI 0)) dX2_power_12 (by decide +kernel) ?_
    refine gGoto (pc := 13) hC (tgt := 27) dX2_power_13 (by decide) ?_
    exact gRetI hC hQ hr (Nat.le_of_ble_eq_true rfl) (Nat.le_of_ble_eq_true rfl) dX2_power_27 (⟨_, rfl, _, rfl, by rw [kk1_1 nok]; exact thr_f nok, Or.inr ⟨kne (kk1_1 nok) ne1, hR⟩⟩)

abbrev rmX2_root : Room := { frames := 3, cells := 0, slots := 0, locals := 68 }
set_option maxRecDepth 100000 in
set_option maxHeartbeats 4000000 in
theorem c_X2_root (l : Launch) (D : va_G) (L : mLay) (μ : mSt) (Δ : dSt) (x : Int32) (hR : mRel μ Δ) : gM l yX2_root wsX2_root rmX2_root D (mTy L) (WM L μ) [.ref (kx L), .int x] 0 0 (fun r w => mPost L Δ Δ (kk1 (okLI x)) (fun b => b = nI (pz (un Δ.1 (rI x) * 1)).val) r w) := by
  refine gM.of (cc := cX2_root) (maxL := 2) (ret := (some .int)) (own := RX2) (by decide) rfl rfl (Nat.le_of_ble_eq_true rfl) rfl ?_
  intro p e s m args below meth c A Q hC hr hnm hQ
  refine gAloadN (pc := 0) hC dX2_root_0 rfl 0 rfl ?_
  refine gIloadN (pc := 1) hC dX2_root_1 rfl 1 rfl ?_
  refine gIconst (pc := 2) hC (v := (nI 1)) dX2_root_2 (by decide +kernel) ?_
  refine gV (pc := 3) (rest := []) (ci := 2) (q0 := 0) hC (c_X2_power l D L μ Δ x (nI 1) hR) rfl rfl (cwV 2 hC.2.2.2.2.1 gX2_root_X2_power rfl rfl rfl (by decide +kernel) ⟨Nat.le_of_ble_eq_true rfl, Nat.le_of_ble_eq_true rfl⟩) rfl rfl (Nat.le_of_ble_eq_true rfl) dX2_root_3 ⟨Nat.le_of_ble_eq_true rfl, Nat.le_of_ble_eq_true rfl⟩ (fun v w1 hp => ?_)
  obtain ⟨b1, rfl, ν1, rfl, h1, h2⟩ := hp
  refine gStk (st' := [.int b1]) (pc' := 6) rfl rfl ?_
  exact gRetI hC hQ hr (Nat.le_of_ble_eq_true rfl) (Nat.le_of_ble_eq_true rfl) dX2_root_6 (⟨b1, rfl, ν1, rfl, h1, h2⟩)
