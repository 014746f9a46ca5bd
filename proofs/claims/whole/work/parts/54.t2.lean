abbrev rmX2_sums : Room := { frames := 2, cells := 0, slots := 0, locals := 46 }
set_option maxRecDepth 100000 in
set_option maxHeartbeats 4000000 in
theorem c_X2_sums (l : Launch) (D : va_G) (L : mLay) (μ : mSt) (k n o : Nat) (F : Nat → Rg) (x : Int32) (sgn : Int) (more : Nat) (hk : k < 5) (hF : mIs μ k n F) (hn : okN n) (ho : mo μ = nI o) (ho2 : o < 32) (hx : x.toInt = sgn) (hm : more < 32) : gM l yX2_sums wsX2_sums rmX2_sums D (mTy L) (WM L μ) [.ref (kx L), .ref (ka L k), .int (nI n), .int x, .int (nI more)] 0 0 (fun r w => r = none ∧ ∃ μ', w = WM L μ' ∧ mFill μ (fun j => ps n (un o n) sgn F j * pw more) n μ') := by
  refine gM.of (cc := cX2_sums) (maxL := 8) (ret := none) (own := RX2) (by decide) rfl rfl (Nat.le_of_ble_eq_true rfl) rfl ?_
  intro p e s m args below meth c A Q hC hr hnm hQ
  have hin2 : ∀ w ∈ u_ws RX2 TX2 6, w ∈ wsX2_sums := by decide +kernel
  have hl18 : Cond.fieldLink RX2 18 "RootrowsModel" "made" "[I" ∈ wsX2_sums := by decide +kernel
  have hnl := hn.le
  refine gIconst (pc := 0) hC (v := (nI 0)) dX2_sums_0 (by decide +kernel) ?_
  refine gIstore (pc := 1) hC (lv' := [(5, .int (nI 0)), (0, .ref (kx L)), (1, .ref (ka L k)), (2, .int (nI n)), (3, .int x), (4, .int (nI more))]) dX2_sums_1 (by decide) rfl ?_
  refine gLoc (lv' := [(5, .int (nI 0)), (0, .ref (kx L)), (1, .ref (ka L k)), (2, .int (nI n)), (3, .int x), (4, .int (nI more))]) [0, 1, 2, 3, 4, 5] rfl ?_
  refine loopUp (S := mSt) (fun j ζ => gG p l e rmX2_sums s m args below meth c D A 8 0 0 Q (WM L ζ) 3 [(5, .int (nI j)), (0, .ref (kx L)), (1, .ref (ka L k)), (2, .int (nI n)), (3, .int x), (4, .int (nI more))] []) (fun j ζ => mFill μ (fun j => ps n (un o n) sgn F j * pw more) j ζ) n ?_ ?_ 0 (μ) (by omega) (mFill.zero μ _)
  · intro ζ hI
    revert hI; generalize ζ = ν1; intro hI
    refine gIload (pc := 3) hC dX2_sums_3 0 rfl ?_
    refine gIloadN (pc := 5) hC dX2_sums_5 rfl 3 rfl ?_
    refine gIcmp_ge (pc := 6) hC (tgt := 75) dX2_sums_6 (by decide) (fun hc1 => ?_) (fun hc1 => absurd (nI_le (Nat.le_refl _) (by omega)) hc1)
    exact gRetV hC hQ hr (Nat.le_of_ble_eq_true rfl) (Nat.le_of_ble_eq_true rfl) dX2_sums_75 (⟨rfl, ν1, rfl, hI⟩)
  · intro j ζ hi hI ih
    revert hI; generalize ζ = ν1; intro hI
    refine gIload (pc := 3) hC dX2_sums_3 0 rfl ?_
    refine gIloadN (pc := 5) hC dX2_sums_5 rfl 3 rfl ?_
    refine gIcmp_ge (pc := 6) hC (tgt := 75) dX2_sums_6 (by decide) (fun hc2 => absurd hc2 (nI_ge hi (by omega))) (fun hc2 => ?_)
    refine gIconst (pc := 9) hC (v := (nI 0)) dX2_sums_9 (by decide +kernel) ?_
    refine gIstore (pc := 10) hC (lv' := [(6, .int (nI 0)), (5, .int (nI j)), (0, .ref (kx L)), (1, .ref (ka L k)), (2, .int (nI n)), (3, .int x), (4, .int (nI more))]) dX2_sums_10 (by decide) rfl ?_
    refine gIconst (pc := 12) hC (v := (nI 0)) dX2_sums_12 (by decide +kernel) ?_
    refine gIstore (pc := 13) hC (lv' := [(7, .int (nI 0)), (6, .int (nI 0)), (5, .int (nI j)), (0, .ref (kx L)), (1, .ref (ka L k)), (2, .int (nI n)), (3, .int x), (4, .int (nI more))]) dX2_sums_13 (by decide) rfl ?_
    have hj := hi
    clear hi
    have hF2 := hI.is hF
    refine gLoc (lv' := [(7, .int (nI 0)), (6, .int (nI 0)), (0, .ref (kx L)), (1, .ref (ka L k)), (2, .int (nI n)), (3, .int x), (4, .int (nI more)), (5, .int (nI j))]) [0, 1, 3, 4, 5, 6, 7, 2] rfl ?_
    refine loopUp (S := Int32) (fun i ζ => gG p l e rmX2_sums s m args below meth c D A 8 0 0 Q (WM L ν1) 15 [(7, .int (nI i)), (6, .int ζ), (0, .ref (kx L)), (1, .ref (ka L k)), (2, .int (nI n)), (3, .int x), (4, .int (nI more)), (5, .int (nI j))] []) (fun i ζ => ζ = nI (sg i (fun i => F i * (fun i => pz (un o n * (sgn * i * j))) i)).val) n ?_ ?_ 0 ((nI 0)) (by omega) (rfl)
    · intro ζ hJ
      revert hJ; generalize ζ = c1; intro hJ
      refine gIload (pc := 15) hC dX2_sums_15 0 rfl ?_
      refine gIloadN (pc := 17) hC dX2_sums_17 rfl 4 rfl ?_
      refine gIcmp_ge (pc := 18) hC (tgt := 55) dX2_sums_18 (by decide) (fun hc3 => ?_) (fun hc3 => absurd (nI_le (Nat.le_refl _) (by omega)) hc3)
      refine gAloadN (pc := 55) hC dX2_sums_55 rfl 2 rfl ?_
      refine mGetArr (pc := 56) hC 2 (a := (km L)) (by decide) ⟨rfl, rfl, rfl⟩ hin2 hl18 dX2_sums_56 ?_
      refine gIload (pc := 59) hC dX2_sums_59 7 rfl ?_
      refine gIload (pc := 61) hC dX2_sums_61 1 rfl ?_
      refine gIload (pc := 63) hC dX2_sums_63 6 rfl ?_
      refine gS (pc := 65) (rest := [.int (nI j), .ref (km L)]) hC (c_X2_doubled l D _ _ _ (ps n (un o n) sgn F j) more hJ hm) (va_cwS 2 hC.2.2.2.2.1 gX2_sums_X2_doubled rfl rfl rfl (by decide +kernel) ⟨Nat.le_of_ble_eq_true rfl, Nat.le_of_ble_eq_true rfl⟩) rfl rfl (Nat.le_of_ble_eq_true rfl) dX2_sums_65 ⟨Nat.le_of_ble_eq_true rfl, Nat.le_of_ble_eq_true rfl⟩ (fun v w1 hp => ?_)
      obtain ⟨rfl, rfl⟩ := hp
      refine gStk (st' := [.int (nI (ps n (un o n) sgn F j * pw more).val), .int (nI j), .ref (km L)]) (pc' := 68) rfl rfl ?_
      obtain ⟨ν4, eν4⟩ : ∃ ζ : mSt, ζ = mMa ν1 (upd (mm ν1) j (nI (ps n (un o n) sgn F j * pw more).val)) := ⟨_, rfl⟩
      refine mMadSt (pc := 68) hC j (rfl) (by omega) eν4 dX2_sums_68 ?_
      refine gIinc (pc := 69) hC (v := (nI (j + 1))) (lv' := [(5, .int (nI (j + 1))), (7, .int (nI n)), (6, .int c1), (0, .ref (kx L)), (1, .ref (ka L k)), (2, .int (nI n)), (3, .int x), (4, .int (nI more))]) dX2_sums_69 (q := 7) rfl (nI_1 _) (by decide) rfl ?_
      refine gGoto (pc := 72) hC (tgt := 3) dX2_sums_72 (by decide) ?_
      refine gLoc (lv' := [(5, .int (nI (j + 1))), (0, .ref (kx L)), (1, .ref (ka L k)), (2, .int (nI n)), (3, .int x), (4, .int (nI more))]) [0, 3, 4, 5, 6, 7] rfl ?_
      exact ih (ν4) (hI.step eν4 rfl)
    · intro i ζ hi hJ jh
      revert hJ; generalize ζ = c1; intro hJ
      refine gIload (pc := 15) hC dX2_sums_15 0 rfl ?_
      refine gIloadN (pc := 17) hC dX2_sums_17 rfl 4 rfl ?_
      refine gIcmp_ge (pc := 18) hC (tgt := 55) dX2_sums_18 (by decide) (fun hc5 => absurd hc5 (nI_ge hi (by omega))) (fun hc5 => ?_)
      refine gIload (pc := 21) hC dX2_sums_21 1 rfl ?_
      refine gAloadN (pc := 23) hC dX2_sums_23 rfl 3 rfl ?_
      refine gIload (pc := 24) hC dX2_sums_24 0 rfl ?_
      refine mNumLd (pc := 26) hC (K := k) (v := (nI (F i).val)) hk i (rfl) (by omega) (hF2 _ (by omega)) dX2_sums_26 ?_
      refine gAloadN (pc := 27) hC dX2_sums_27 rfl 2 rfl ?_
      refine gIloadN (pc := 28) hC dX2_sums_28 rfl 4 rfl ?_
      refine gIloadN (pc := 29) hC dX2_sums_29 rfl 5 rfl ?_
      refine gIload (pc := 30) hC dX2_sums_30 0 rfl ?_
      refine gImul (pc := 32) hC dX2_sums_32 rfl ?_
      refine gIload (pc := 33) hC dX2_sums_33 7 rfl ?_
      refine gImul (pc := 35) hC dX2_sums_35 rfl ?_
      refine gI2l (pc := 36) hC dX2_sums_36 rfl ?_
      refine gV (pc := 37) (rest := [.int (nI (F i).val), .int c1]) (ci := 2) (q0 := 0) hC (c_X2_exponent l D L ν1 n o _ _ hn (hI.odd.trans ho) ho2 (i64_of _)) rfl rfl (cwV 2 hC.2.2.2.2.1 gX2_sums_X2_exponent rfl rfl rfl (by decide +kernel) ⟨Nat.le_of_ble_eq_true rfl, Nat.le_of_ble_eq_true rfl⟩) rfl rfl (Nat.le_of_ble_eq_true rfl) dX2_sums_37 ⟨Nat.le_of_ble_eq_true rfl, Nat.le_of_ble_eq_true rfl⟩ (fun v w1 hp => ?_)
      obtain ⟨rfl, rfl⟩ := hp
      refine gStk (st' := [.int (nI (xp o n (x * nI i * nI j).toInt)), .int (nI (F i).val), .int c1]) (pc' := 40) rfl rfl ?_
      refine gS (pc := 40) (rest := [.int c1]) hC (c_X2_doubled l D _ _ _ (F i) _ rfl (xp_lt _ _ _)) (va_cwS 2 hC.2.2.2.2.1 gX2_sums_X2_doubled rfl rfl rfl (by decide +kernel) ⟨Nat.le_of_ble_eq_true rfl, Nat.le_of_ble_eq_true rfl⟩) rfl rfl (Nat.le_of_ble_eq_true rfl) dX2_sums_40 ⟨Nat.le_of_ble_eq_true rfl, Nat.le_of_ble_eq_true rfl⟩ (fun v w1 hp => ?_)
      obtain ⟨rfl, rfl⟩ := hp
      refine gStk (st' := [.int (nI (F i * pw (xp o n (x * nI i * nI j).toInt)).val), .int c1]) (pc' := 43) rfl rfl ?_
      rw [xp_pw hn, pz_w (z' := sgn * i * j) (hz_mul (hz_mul (by rw [hx]) (hz_pos (by omega))) (hz_pos (by omega)))]
      refine gIadd (pc := 43) hC dX2_sums_43 rfl ?_
      refine gLdc (pc := 44) hC (v := 65537) dX2_sums_44 (by decide +kernel) ?_
      refine gIrem (pc := 46) hC (v := (nI (sg (i + 1) (fun i => F i * (fun i => pz (un o n * (sgn * i * j))) i)).val)) dX2_sums_46 (by decide) (by rw [hJ]; exact j_add (sg i (fun i => F i * (fun i => pz (un o n * (sgn * i * j))) i)) (F i * (fun i => pz (un o n * (sgn * i * j))) i) rfl rfl) ?_
      refine gIstore (pc := 47) hC (lv' := [(6, .int (nI (sg (i + 1) (fun i => F i * (fun i => pz (un o n * (sgn * i * j))) i)).val)), (7, .int (nI i)), (0, .ref (kx L)), (1, .ref (ka L k)), (2, .int (nI n)), (3, .int x), (4, .int (nI more)), (5, .int (nI j))]) dX2_sums_47 (by decide) rfl ?_
      refine gIinc (pc := 49) hC (v := (nI (i + 1))) (lv' := [(7, .int (nI (i + 1))), (6, .int (nI (sg (i + 1) (fun i => F i * (fun i => pz (un o n * (sgn * i * j))) i)).val)), (0, .ref (kx L)), (1, .ref (ka L k)), (2, .int (nI n)), (3, .int x), (4, .int (nI more)), (5, .int (nI j))]) dX2_sums_49 (q := 1) rfl (nI_1 _) (by decide) rfl ?_
      refine gGoto (pc := 52) hC (tgt := 15) dX2_sums_52 (by decide) ?_
      refine gLoc (lv' := [(7, .int (nI (i + 1))), (6, .int (nI (sg (i + 1) (fun i => F i * (fun i => pz (un o n * (sgn * i * j))) i)).val)), (0, .ref (kx L)), (1, .ref (ka L k)), (2, .int (nI n)), (3, .int x), (4, .int (nI more)), (5, .int (nI j))]) [0, 1, 2, 3, 4, 5, 6, 7] rfl ?_
      exact jh ((nI (sg (i + 1) (fun i => F i * (fun i => pz (un o n * (sgn * i * j))) i)).val)) (rfl)

abbrev rmX2_valuesOf : Room := { frames := 3, cells := 0, slots := 0, locals := 73 }
set_option maxRecDepth 100000 in
set_option maxHeartbeats 4000000 in
theorem c_X2_valuesOf (l : Launch) (D : va_G) (L : mLay) (μ : mSt) (i0 : Nat) (Δ : dSt) (hi0 : i0 < 4) (hR : mRel μ Δ) : gM l yX2_valuesOf wsX2_valuesOf rmX2_valuesOf D (mTy L) (WM L μ) [.ref (kx L), .int (nI i0)] 0 0 (fun r w => r = none ∧ ∃ μ', w = WM L μ' ∧ mFill μ (ps (Δ.2.1 i0) (un Δ.1 (Δ.2.1 i0)) 1 (Δ.2.2 i0)) (Δ.2.1 i0) μ') := by
  refine gM.of (cc := cX2_valuesOf) (maxL := 2) (ret := none) (own := RX2) (by decide) rfl rfl (Nat.le_of_ble_eq_true rfl) rfl ?_
  intro p e s m args below meth c A Q hC hr hnm hQ
  have hin2 : ∀ w ∈ u_ws RX2 TX2 6, w ∈ wsX2_valuesOf := by decide +kernel
  have hl11 : Cond.fieldLink RX2 11 "RootrowsModel" "numbers" "[[I" ∈ wsX2_valuesOf := by decide +kernel
  have hl14 : Cond.fieldLink RX2 14 "RootrowsModel" "lengths" "[I" ∈ wsX2_valuesOf := by decide +kernel
  obtain ⟨hl_, hle, hF, hz⟩ := hR.2.2 _ hi0
  refine gAloadN (pc := 0) hC dX2_valuesOf_0 rfl 0 rfl ?_
  refine gAloadN (pc := 1) hC dX2_valuesOf_1 rfl 0 rfl ?_
  refine mGetArr (pc := 2) hC 0 (a := (kn L)) (by decide) ⟨rfl, rfl, rfl⟩ hin2 hl11 dX2_valuesOf_2 ?_
  refine gIloadN (pc := 5) hC dX2_valuesOf_5 rfl 1 rfl ?_
  refine mRowAld (pc := 6) hC i0 (rfl) (hi0) dX2_valuesOf_6 ?_
  refine gAloadN (pc := 7) hC dX2_valuesOf_7 rfl 0 rfl ?_
  refine mGetArr (pc := 8) hC 1 (a := (kl L)) (by decide) ⟨rfl, rfl, rfl⟩ hin2 hl14 dX2_valuesOf_8 ?_
  refine gIloadN (pc := 11) hC dX2_valuesOf_11 rfl 1 rfl ?_
  refine mLenLd (pc := 12) hC (v := (nI (Δ.2.1 i0))) i0 (rfl) (hi0) (hle) dX2_valuesOf_12 ?_
  refine gIconst (pc := 13) hC (v := (nI 1)) dX2_valuesOf_13 (by decide +kernel) ?_
  refine gIconst (pc := 14) hC (v := (nI 0)) dX2_valuesOf_14 (by decide +kernel) ?_
  refine gV (pc := 15) (rest := []) (ci := 2) (q0 := 0) hC (c_X2_sums l D L μ i0 (Δ.2.1 i0) Δ.1 (Δ.2.2 i0) (nI 1) 1 0 (by omega) hF hl_.N hR.1 hR.2.1.2 rfl (by decide)) rfl rfl (cwV 4 hC.2.2.2.2.1 gX2_valuesOf_X2_sums rfl rfl rfl (by decide +kernel) ⟨Nat.le_of_ble_eq_true rfl, Nat.le_of_ble_eq_true rfl⟩) rfl rfl (Nat.le_of_ble_eq_true rfl) dX2_valuesOf_15 ⟨Nat.le_of_ble_eq_true rfl, Nat.le_of_ble_eq_true rfl⟩ (fun v w1 hp => ?_)
  obtain ⟨rfl, μ', rfl, h⟩ := hp
  refine gStk (st' := []) (pc' := 18) rfl rfl ?_
  exact gRetV hC hQ hr (Nat.le_of_ble_eq_true rfl) (Nat.le_of_ble_eq_true rfl) dX2_valuesOf_18 (⟨rfl, μ', rfl, h.cong (fun j _ => fr_m1 _)⟩)

abbrev rmX2_backOf : Room := { frames := 3, cells := 0, slots := 0, locals := 73 }
set_option maxRecDepth 100000 in
set_option maxHeartbeats 4000000 in
theorem c_X2_backOf (l : Launch) (D : va_G) (L : mLay) (μ : mSt) (k n o : Nat) (F : Nat → Rg) (hk : k < 5) (hF : mIs μ k n F) (hn : okL n) (ho : mo μ = nI o) (ho2 : o < 32) : gM l yX2_backOf wsX2_backOf rmX2_backOf D (mTy L) (WM L μ) [.ref (kx L), .ref (ka L k), .int (nI n)] 0 0 (fun r w => r = none ∧ ∃ μ', w = WM L μ' ∧ mFill μ (bk n (un o n) F) n μ') := by
  refine gM.of (cc := cX2_backOf) (maxL := 3) (ret := none) (own := RX2) (by decide) rfl rfl (Nat.le_of_ble_eq_true rfl) rfl ?_
  intro p e s m args below meth c A Q hC hr hnm hQ
  refine gAloadN (pc := 0) hC dX2_backOf_0 rfl 0 rfl ?_
  refine gAloadN (pc := 1) hC dX2_backOf_1 rfl 1 rfl ?_
  refine gIloadN (pc := 2) hC dX2_backOf_2 rfl 2 rfl ?_
  refine gIconst (pc := 3) hC (v := (-1)) dX2_backOf_3 (by decide +kernel) ?_
  refine gIloadN (pc := 4) hC dX2_backOf_4 rfl 2 rfl ?_
  refine gIconst (pc := 5) hC (v := (nI 2)) dX2_backOf_5 (by decide +kernel) ?_
  refine gIcmp_ne (pc := 6) hC (tgt := 14) dX2_backOf_6 (by decide) (fun hc1 => ?_) (fun hc1 => ?_)
  · skip
    refine gIloadN (pc := 14) hC dX2_backOf_14 rfl 2 rfl ?_
    refine gIconst (pc := 15) hC (v := (nI 4)) dX2_backOf_15 (by decide +kernel) ?_
    refine gIcmp_ne (pc := 16) hC (tgt := 24) dX2_backOf_16 (by decide) (fun hc2 => ?_) (fun hc2 => ?_)
    · skip
      refine gIloadN (pc := 24) hC dX2_backOf_24 rfl 2 rfl ?_
      refine gBipush (pc := 25) hC (v := (nI 8)) dX2_backOf_25 (by decide +kernel) ?_
      refine gIcmp_ne (pc := 27) hC (tgt := 35) dX2_backOf_27 (by decide) (fun hc3 => ?_) (fun hc3 => ?_)
      · skip
        have en : n = 16 := by
          rcases hn with h | h | h | h
          · exact absurd (by rw [h]) hc1
          · exact absurd (by rw [h]) hc2
          · exact absurd (by rw [h]) hc3
          · exact h
        refine gBipush (pc := 35) hC (v := (nI 28)) dX2_backOf_35 (by decide +kernel) ?_
        refine gV (pc := 37) (rest := []) (ci := 2) (q0 := 0) hC (c_X2_sums l D L μ k n o F (-1) (-1) 28 hk hF hn.N ho ho2 (by decide +kernel) (by decide)) rfl rfl (cwV 4 hC.2.2.2.2.1 gX2_backOf_X2_sums rfl rfl rfl (by decide +kernel) ⟨Nat.le_of_ble_eq_true rfl, Nat.le_of_ble_eq_true rfl⟩) rfl rfl (Nat.le_of_ble_eq_true rfl) dX2_backOf_37 ⟨Nat.le_of_ble_eq_true rfl, Nat.le_of_ble_eq_true rfl⟩ (fun v w1 hp => ?_)
        obtain ⟨rfl, μ', rfl, h⟩ := hp
        refine gStk (st' := []) (pc' := 40) rfl rfl ?_
        exact gRetV hC hQ hr (Nat.le_of_ble_eq_true rfl) (Nat.le_of_ble_eq_true rfl) dX2_backOf_40 (⟨rfl, μ', rfl, h.cong (fun j _ => by subst en; exact congrArg (ps _ _ (-1) F j * ·) (by decide +kernel))⟩)
      · skip
        have en : n = 8 := (nI_eq (by have := hn.N.le; omega) (by decide)).mp hc3
        refine gBipush (pc := 30) hC (v := (nI 29)) dX2_backOf_30 (by decide +kernel) ?_
        refine gGoto (pc := 32) hC (tgt := 37) dX2_backOf_32 (by decide) ?_
        refine gV (pc := 37) (rest := []) (ci := 2) (q0 := 0) hC (c_X2_sums l D L μ k n o F (-1) (-1) 29 hk hF hn.N ho ho2 (by decide +kernel) (by decide)) rfl rfl (cwV 4 hC.2.2.2.2.1 gX2_backOf_X2_sums rfl rfl rfl (by decide +kernel) ⟨Nat.le_of_ble_eq_true rfl, Nat.le_of_ble_eq_true rfl⟩) rfl rfl (Nat.le_of_ble_eq_true rfl) dX2_backOf_37 ⟨Nat.le_of_ble_eq_true rfl, Nat.le_of_ble_eq_true rfl⟩ (fun v w1 hp => ?_)
        obtain ⟨rfl, μ', rfl, h⟩ := hp
        refine gStk (st' := []) (pc' := 40) rfl rfl ?_
        exact gRetV hC hQ hr (Nat.le_of_ble_eq_true rfl) (Nat.le_of_ble_eq_true rfl) dX2_backOf_40 (⟨rfl, μ', rfl, h.cong (fun j _ => by subst en; exact congrArg (ps _ _ (-1) F j * ·) (by decide +kernel))⟩)
    · skip
      have en : n = 4 := (nI_eq (by have := hn.N.le; omega) (by decide)).mp hc2
      refine gBipush (pc := 19) hC (v := (nI 30)) dX2_backOf_19 (by decide +kernel) ?_
      refine gGoto (pc := 21) hC (tgt := 37) dX2_backOf_21 (by decide) ?_
      refine gV (pc := 37) (rest := []) (ci := 2) (q0 := 0) hC (c_X2_sums l D L μ k n o F (-1) (-1) 30 hk hF hn.N ho ho2 (by decide +kernel) (by decide)) rfl rfl (cwV 4 hC.2.2.2.2.1 gX2_backOf_X2_sums rfl rfl rfl (by decide +kernel) ⟨Nat.le_of_ble_eq_true rfl, Nat.le_of_ble_eq_true rfl⟩) rfl rfl (Nat.le_of_ble_eq_true rfl) dX2_backOf_37 ⟨Nat.le_of_ble_eq_true rfl, Nat.le_of_ble_eq_true rfl⟩ (fun v w1 hp => ?_)
      obtain ⟨rfl, μ', rfl, h⟩ := hp
      refine gStk (st' := []) (pc' := 40) rfl rfl ?_
      exact gRetV hC hQ hr (Nat.le_of_ble_eq_true rfl) (Nat.le_of_ble_eq_true rfl) dX2_backOf_40 (⟨rfl, μ', rfl, h.cong (fun j _ => by subst en; exact congrArg (ps _ _ (-1) F j * ·) (by decide +kernel))⟩)
  · skip
    have en : n = 2 := (nI_eq (by have := hn.N.le; omega) (by decide)).mp hc1
    refine gBipush (pc := 9) hC (v := (nI 31)) dX2_backOf_9 (by decide +kernel) ?_
    refine gGoto (pc := 11) hC (tgt := 37) dX2_backOf_11 (by decide) ?_
    refine gV (pc := 37) (rest := []) (ci := 2) (q0 := 0) hC (c_X2_sums l D L μ k n o F (-1) (-1) 31 hk hF hn.N ho ho2 (by decide +kernel) (by decide)) rfl rfl (cwV 4 hC.2.2.2.2.1 gX2_backOf_X2_sums rfl rfl rfl (by decide +kernel) ⟨Nat.le_of_ble_eq_true rfl, Nat.le_of_ble_eq_true rfl⟩) rfl rfl (Nat.le_of_ble_eq_true rfl) dX2_backOf_37 ⟨Nat.le_of_ble_eq_true rfl, Nat.le_of_ble_eq_true rfl⟩ (fun v w1 hp => ?_)
    obtain ⟨rfl, μ', rfl, h⟩ := hp
    refine gStk (st' := []) (pc' := 40) rfl rfl ?_
    exact gRetV hC hQ hr (Nat.le_of_ble_eq_true rfl) (Nat.le_of_ble_eq_true rfl) dX2_backOf_40 (⟨rfl, μ', rfl, h.cong (fun j _ => by subst en; exact congrArg (ps _ _ (-1) F j * ·) (by decide +kernel))⟩)

abbrev rmX2_zerosOf : Room := { frames := 0, cells := 0, slots := 0, locals := 0 }
set_option maxRecDepth 100000 in
set_option maxHeartbeats 4000000 in
theorem c_X2_zerosOf (l : Launch) (D : va_G) (L : mLay) (μ : mSt) (i0 n : Nat) (F : Nat → Rg) (hi0 : i0 < 4) (hle : ml μ i0 = nI n) (hF : mIs μ i0 n F) (hn : n ≤ 16) : gM l yX2_zerosOf wsX2_zerosOf rmX2_zerosOf D (mTy L) (WM L μ) [.ref (kx L), .int (nI i0)] 0 0 (fun r w => w = WM L μ ∧ r = some (.int (nI (cz F n)))) := by
  refine gM.of (cc := cX2_zerosOf) (maxL := 4) (ret := (some .int)) (own := RX2) (by decide) rfl rfl (Nat.le_of_ble_eq_true rfl) rfl ?_
  intro p e s m args below meth c A Q hC hr hnm hQ
  have hin2 : ∀ w ∈ u_ws RX2 TX2 6, w ∈ wsX2_zerosOf := by decide +kernel
  have hl11 : Cond.fieldLink RX2 11 "RootrowsModel" "numbers" "[[I" ∈ wsX2_zerosOf := by decide +kernel
  have hl14 : Cond.fieldLink RX2 14 "RootrowsModel" "lengths" "[I" ∈ wsX2_zerosOf := by decide +kernel
  refine gIconst (pc := 0) hC (v := (nI 0)) dX2_zerosOf_0 (by decide +kernel) ?_
  refine gIstoreN (pc := 1) hC (lv' := [(2, .int (nI 0)), (0, .ref (kx L)), (1, .int (nI i0))]) dX2_zerosOf_1 rfl (by decide) rfl ?_
  refine gIconst (pc := 2) hC (v := (nI 0)) dX2_zerosOf_2 (by decide +kernel) ?_
  refine gIstoreN (pc := 3) hC (lv' := [(3, .int (nI 0)), (2, .int (nI 0)), (0, .ref (kx L)), (1, .int (nI i0))]) dX2_zerosOf_3 rfl (by decide) rfl ?_
  refine gLoc (lv' := [(3, .int (nI 0)), (2, .int (nI 0)), (0, .ref (kx L)), (1, .int (nI i0))]) [0, 1, 2, 3] rfl ?_
  refine loopUp (S := Int32) (fun i ζ => gG p l e rmX2_zerosOf s m args below meth c D A 4 0 0 Q (WM L μ) 4 [(3, .int (nI i)), (2, .int ζ), (0, .ref (kx L)), (1, .int (nI i0))] []) (fun i ζ => ζ = nI (cz F i)) n ?_ ?_ 0 ((nI 0)) (by omega) (rfl)
  · intro ζ hI
    revert hI; generalize ζ = c1; intro hI
    refine gIloadN (pc := 4) hC dX2_zerosOf_4 rfl 0 rfl ?_
    refine gAloadN (pc := 5) hC dX2_zerosOf_5 rfl 2 rfl ?_
    refine mGetArr (pc := 6) hC 1 (a := (kl L)) (by decide) ⟨rfl, rfl, rfl⟩ hin2 hl14 dX2_zerosOf_6 ?_
    refine gIloadN (pc := 9) hC dX2_zerosOf_9 rfl 3 rfl ?_
    refine mLenLd (pc := 10) hC (v := (nI n)) i0 (rfl) (hi0) (hle) dX2_zerosOf_10 ?_
    refine gIcmp_ge (pc := 11) hC (tgt := 39) dX2_zerosOf_11 (by decide) (fun hc1 => ?_) (fun hc1 => absurd (nI_le (Nat.le_refl _) (by omega)) hc1)
    refine gIloadN (pc := 39) hC dX2_zerosOf_39 rfl 1 rfl ?_
    exact gRetI hC hQ hr (Nat.le_of_ble_eq_true rfl) (Nat.le_of_ble_eq_true rfl) dX2_zerosOf_40 (⟨rfl, by rw [hI]⟩)
  · intro i ζ hi hI ih
    revert hI; generalize ζ = c1; intro hI
    refine gIloadN (pc := 4) hC dX2_zerosOf_4 rfl 0 rfl ?_
    refine gAloadN (pc := 5) hC dX2_zerosOf_5 rfl 2 rfl ?_
    refine mGetArr (pc := 6) hC 1 (a := (kl L)) (by decide) ⟨rfl, rfl, rfl⟩ hin2 hl14 dX2_zerosOf_6 ?_
    refine gIloadN (pc := 9) hC dX2_zerosOf_9 rfl 3 rfl ?_
    refine mLenLd (pc := 10) hC (v := (nI n)) i0 (rfl) (hi0) (hle) dX2_zerosOf_10 ?_
    refine gIcmp_ge (pc := 11) hC (tgt := 39) dX2_zerosOf_11 (by decide) (fun hc2 => absurd hc2 (nI_ge hi (by omega))) (fun hc2 => ?_)
    refine gIloadN (pc := 14) hC dX2_zerosOf_14 rfl 1 rfl ?_
    refine gAloadN (pc := 15) hC dX2_zerosOf_15 rfl 2 rfl ?_
    refine mGetArr (pc := 16) hC 0 (a := (kn L)) (by decide) ⟨rfl, rfl, rfl⟩ hin2 hl11 dX2_zerosOf_16 ?_
    refine gIloadN (pc := 19) hC dX2_zerosOf_19 rfl 3 rfl ?_
    refine mRowAld (pc := 20) hC i0 (rfl) (hi0) dX2_zerosOf_20 ?_
    refine gIloadN (pc := 21) hC dX2_zerosOf_21 rfl 0 rfl ?_
    refine mNumLd (pc := 22) hC (K := i0) (v := (nI (F i).val)) (by omega) i (rfl) (by omega) (hF _ (by omega)) dX2_zerosOf_22 ?_
    refine gIf_ne (pc := 23) hC (tgt := 30) dX2_zerosOf_23 (by decide) (fun hc3 => ?_) (fun hc3 => ?_)
    · skip
      refine gIconst (pc := 30) hC (v := (nI 0)) dX2_zerosOf_30 (by decide +kernel) ?_
      refine gIadd (pc := 31) hC (v := (nI (cz F (i + 1)))) dX2_zerosOf_31 (by rw [hI, cz_s, if_neg (fun h => hc3 (by rw [h]; rfl))]; exact nI_add _ 0) ?_
      refine gIstoreN (pc := 32) hC (lv' := [(2, .int (nI (cz F (i + 1)))), (3, .int (nI i)), (0, .ref (kx L)), (1, .int (nI i0))]) dX2_zerosOf_32 rfl (by decide) rfl ?_
      refine gIinc (pc := 33) hC (v := (nI (i + 1))) (lv' := [(3, .int (nI (i + 1))), (2, .int (nI (cz F (i + 1)))), (0, .ref (kx L)), (1, .int (nI i0))]) dX2_zerosOf_33 (q := 1) rfl (nI_1 _) (by decide) rfl ?_
      refine gGoto (pc := 36) hC (tgt := 4) dX2_zerosOf_36 (by decide) ?_
      refine gLoc (lv' := [(3, .int (nI (i + 1))), (2, .int (nI (cz F (i + 1)))), (0, .ref (kx L)), (1, .int (nI i0))]) [0, 1, 2, 3] rfl ?_
      exact ih ((nI (cz F (i + 1)))) (rfl)
    · skip
      refine gIconst (pc := 26) hC (v := (nI 1)) dX2_zerosOf_26 (by decide +kernel) ?_
      refine gGoto (pc := 27) hC (tgt := 31) dX2_zerosOf_27 (by decide) ?_
      refine gIadd (pc := 31) hC (v := (nI (cz F (i + 1)))) dX2_zerosOf_31 (by rw [hI, cz_s, if_pos ((val0 _).mp hc3)]; exact nI_add _ 1) ?_
      refine gIstoreN (pc := 32) hC (lv' := [(2, .int (nI (cz F (i + 1)))), (3, .int (nI i)), (0, .ref (kx L)), (1, .int (nI i0))]) dX2_zerosOf_32 rfl (by decide) rfl ?_
      refine gIinc (pc := 33) hC (v := (nI (i + 1))) (lv' := [(3, .int (nI (i + 1))), (2, .int (nI (cz F (i + 1)))), (0, .ref (kx L)), (1, .int (nI i0))]) dX2_zerosOf_33 (q := 1) rfl (nI_1 _) (by decide) rfl ?_
      refine gGoto (pc := 36) hC (tgt := 4) dX2_zerosOf_36 (by decide) ?_
      refine gLoc (lv' := [(3, .int (nI (i + 1))), (2, .int (nI (cz F (i + 1)))), (0, .ref (kx L)), (1, .int (nI i0))]) [0, 1, 2, 3] rfl ?_
      exact ih ((nI (cz F (i + 1)))) (rfl)

abbrev rmX2_put : Room := { frames := 0, cells := 0, slots := 0, locals := 0 }
set_option maxRecDepth 100000 in
set_option maxHeartbeats 4000000 in
theorem c_X2_put (l : Launch) (D : va_G) (L : mLay) (μ : mSt) (i0 n : Nat) (G F : Nat → Rg) (hi0 : i0 < 4) (hle : ml μ i0 = nI n) (hG : mIs μ i0 n G) (hM : ∀ j, j < n → mm μ j = nI (F j).val) (hn : n ≤ 16) : gM l yX2_put wsX2_put rmX2_put D (mTy L) (WM L μ) [.ref (kx L), .int (nI i0)] 0 0 (fun r w => r = some (.int (nI (cd G F n))) ∧ ∃ μ', w = WM L μ' ∧ mPut μ i0 F n μ') := by
  refine gM.of (cc := cX2_put) (maxL := 4) (ret := (some .int)) (own := RX2) (by decide) rfl rfl (Nat.le_of_ble_eq_true rfl) rfl ?_
  intro p e s m args below meth c A Q hC hr hnm hQ
  have hin2 : ∀ w ∈ u_ws RX2 TX2 6, w ∈ wsX2_put := by decide +kernel
  have hl11 : Cond.fieldLink RX2 11 "RootrowsModel" "numbers" "[[I" ∈ wsX2_put := by decide +kernel
  have hl14 : Cond.fieldLink RX2 14 "RootrowsModel" "lengths" "[I" ∈ wsX2_put := by decide +kernel
  have hl18 : Cond.fieldLink RX2 18 "RootrowsModel" "made" "[I" ∈ wsX2_put := by decide +kernel
  refine gIconst (pc := 0) hC (v := (nI 0)) dX2_put_0 (by decide +kernel) ?_
  refine gIstoreN (pc := 1) hC (lv' := [(2, .int (nI 0)), (0, .ref (kx L)), (1, .int (nI i0))]) dX2_put_1 rfl (by decide) rfl ?_
  refine gIconst (pc := 2) hC (v := (nI 0)) dX2_put_2 (by decide +kernel) ?_
  refine gIstoreN (pc := 3) hC (lv' := [(3, .int (nI 0)), (2, .int (nI 0)), (0, .ref (kx L)), (1, .int (nI i0))]) dX2_put_3 rfl (by decide) rfl ?_
  refine gLoc (lv' := [(3, .int (nI 0)), (2, .int (nI 0)), (0, .ref (kx L)), (1, .int (nI i0))]) [0, 1, 2, 3] rfl ?_
  refine loopUp (S := (mSt × Int32)) (fun i ζ => gG p l e rmX2_put s m args below meth c D A 4 0 0 Q (WM L ζ.1) 4 [(3, .int (nI i)), (2, .int (ζ.2)), (0, .ref (kx L)), (1, .int (nI i0))] []) (fun i ζ => mPut μ i0 F i ζ.1 ∧ ζ.2 = nI (cd G F i)) n ?_ ?_ 0 (μ, (nI 0)) (by omega) (⟨mPut.zero μ i0 F, rfl⟩)
  · intro ζ hI
    obtain ⟨ν1, c1⟩ := ζ
    try dsimp only at hI ⊢
    refine gIloadN (pc := 4) hC dX2_put_4 rfl 0 rfl ?_
    refine gAloadN (pc := 5) hC dX2_put_5 rfl 2 rfl ?_
    refine mGetArr (pc := 6) hC 1 (a := (kl L)) (by decide) ⟨rfl, rfl, rfl⟩ hin2 hl14 dX2_put_6 ?_
    refine gIloadN (pc := 9) hC dX2_put_9 rfl 3 rfl ?_
    refine mLenLd (pc := 10) hC (v := (nI n)) i0 (rfl) (hi0) (hI.1.len hle) dX2_put_10 ?_
    refine gIcmp_ge (pc := 11) hC (tgt := 59) dX2_put_11 (by decide) (fun hc1 => ?_) (fun hc1 => absurd (nI_le (Nat.le_refl _) (by omega)) hc1)
    refine gIloadN (pc := 59) hC dX2_put_59 rfl 1 rfl ?_
    exact gRetI hC hQ hr (Nat.le_of_ble_eq_true rfl) (Nat.le_of_ble_eq_true rfl) dX2_put_60 (⟨by rw [hI.2], ν1, rfl, hI.1⟩)
  · intro i ζ hi hI ih
    obtain ⟨ν1, c1⟩ := ζ
    try dsimp only at hI ih ⊢
    refine gIloadN (pc := 4) hC dX2_put_4 rfl 0 rfl ?_
    refine gAloadN (pc := 5) hC dX2_put_5 rfl 2 rfl ?_
    refine mGetArr (pc := 6) hC 1 (a := (kl L)) (by decide) ⟨rfl, rfl, rfl⟩ hin2 hl14 dX2_put_6 ?_
    refine gIloadN (pc := 9) hC dX2_put_9 rfl 3 rfl ?_
    refine mLenLd (pc := 10) hC (v := (nI n)) i0 (rfl) (hi0) (hI.1.len hle) dX2_put_10 ?_
    refine gIcmp_ge (pc := 11) hC (tgt := 59) dX2_put_11 (by decide) (fun hc2 => absurd hc2 (nI_ge hi (by omega))) (fun hc2 => ?_)
    refine gIloadN (pc := 14) hC dX2_put_14 rfl 1 rfl ?_
    refine gAloadN (pc := 15) hC dX2_put_15 rfl 2 rfl ?_
    refine mGetArr (pc := 16) hC 0 (a := (kn L)) (by decide) ⟨rfl, rfl, rfl⟩ hin2 hl11 dX2_put_16 ?_
    refine gIloadN (pc := 19) hC dX2_put_19 rfl 3 rfl ?_
    refine mRowAld (pc := 20) hC i0 (rfl) (hi0) dX2_put_20 ?_
    refine gIloadN (pc := 21) hC dX2_put_21 rfl 0 rfl ?_
    refine mNumLd (pc := 22) hC (K := i0) (v := (nI (G i).val)) (by omega) i (rfl) (by omega) ((hI.1.old (Nat.le_refl i)).trans (hG i hi)) dX2_put_22 ?_
    refine gAloadN (pc := 23) hC dX2_put_23 rfl 2 rfl ?_
    refine mGetArr (pc := 24) hC 2 (a := (km L)) (by decide) ⟨rfl, rfl, rfl⟩ hin2 hl18 dX2_put_24 ?_
    refine gIloadN (pc := 27) hC dX2_put_27 rfl 0 rfl ?_
    refine mMadLd (pc := 28) hC (v := (nI (F i).val)) i (rfl) (by omega) (hI.1.mad (hM i hi)) dX2_put_28 ?_
    refine gIcmp_ne (pc := 29) hC (tgt := 36) dX2_put_29 (by decide) (fun hc3 => ?_) (fun hc3 => ?_)
    · skip
      refine gIconst (pc := 36) hC (v := (nI 1)) dX2_put_36 (by decide +kernel) ?_
      refine gIadd (pc := 37) hC (v := (nI (cd G F (i + 1)))) dX2_put_37 (by rw [hI.2, cd_s, if_neg (fun h => hc3 (val_ne.mpr h))]; exact nI_add _ 1) ?_
      refine gIstoreN (pc := 38) hC (lv' := [(2, .int (nI (cd G F (i + 1)))), (3, .int (nI i)), (0, .ref (kx L)), (1, .int (nI i0))]) dX2_put_38 rfl (by decide) rfl ?_
      refine gAloadN (pc := 39) hC dX2_put_39 rfl 2 rfl ?_
      refine mGetArr (pc := 40) hC 0 (a := (kn L)) (by decide) ⟨rfl, rfl, rfl⟩ hin2 hl11 dX2_put_40 ?_
      refine gIloadN (pc := 43) hC dX2_put_43 rfl 3 rfl ?_
      refine mRowAld (pc := 44) hC i0 (rfl) (hi0) dX2_put_44 ?_
      refine gIloadN (pc := 45) hC dX2_put_45 rfl 1 rfl ?_
      refine gAloadN (pc := 46) hC dX2_put_46 rfl 2 rfl ?_
      refine mGetArr (pc := 47) hC 2 (a := (km L)) (by decide) ⟨rfl, rfl, rfl⟩ hin2 hl18 dX2_put_47 ?_
      refine gIloadN (pc := 50) hC dX2_put_50 rfl 1 rfl ?_
      refine mMadLd (pc := 51) hC (v := (nI (F i).val)) i (rfl) (by omega) (hI.1.mad (hM i hi)) dX2_put_51 ?_
      obtain ⟨ν4, eν4⟩ : ∃ ζ : mSt, ζ = mRo ν1 i0 (upd (mn ν1 i0) i (nI (F i).val)) := ⟨_, rfl⟩
      refine mNumSt (pc := 52) hC (K := i0) (by omega) i (rfl) (by omega) eν4 dX2_put_52 ?_
      refine gIinc (pc := 53) hC (v := (nI (i + 1))) (lv' := [(3, .int (nI (i + 1))), (2, .int (nI (cd G F (i + 1)))), (0, .ref (kx L)), (1, .int (nI i0))]) dX2_put_53 (q := 1) rfl (nI_1 _) (by decide) rfl ?_
      refine gGoto (pc := 56) hC (tgt := 4) dX2_put_56 (by decide) ?_
      refine gLoc (lv' := [(3, .int (nI (i + 1))), (2, .int (nI (cd G F (i + 1)))), (0, .ref (kx L)), (1, .int (nI i0))]) [0, 1, 2, 3] rfl ?_
      exact ih (ν4, (nI (cd G F (i + 1)))) (⟨hI.1.step eν4 rfl, rfl⟩)
    · skip
      refine gIconst (pc := 32) hC (v := (nI 0)) dX2_put_32 (by decide +kernel) ?_
      refine gGoto (pc := 33) hC (tgt := 37) dX2_put_33 (by decide) ?_
      refine gIadd (pc := 37) hC (v := (nI (cd G F (i + 1)))) dX2_put_37 (by rw [hI.2, cd_s, if_pos (val_ne.mp hc3)]; exact nI_add _ 0) ?_
      refine gIstoreN (pc := 38) hC (lv' := [(2, .int (nI (cd G F (i + 1)))), (3, .int (nI i)), (0, .ref (kx L)), (1, .int (nI i0))]) dX2_put_38 rfl (by decide) rfl ?_
      refine gAloadN (pc := 39) hC dX2_put_39 rfl 2 rfl ?_
      refine mGetArr (pc := 40) hC 0 (a := (kn L)) (by decide) ⟨rfl, rfl, rfl⟩ hin2 hl11 dX2_put_40 ?_
      refine gIloadN (pc := 43) hC dX2_put_43 rfl 3 rfl ?_
      refine mRowAld (pc := 44) hC i0 (rfl) (hi0) dX2_put_44 ?_
      refine gIloadN (pc := 45) hC dX2_put_45 rfl 1 rfl ?_
      refine gAloadN (pc := 46) hC dX2_put_46 rfl 2 rfl ?_
      refine mGetArr (pc := 47) hC 2 (a := (km L)) (by decide) ⟨rfl, rfl, rfl⟩ hin2 hl18 dX2_put_47 ?_
      refine gIloadN (pc := 50) hC dX2_put_50 rfl 1 rfl ?_
      refine mMadLd (pc := 51) hC (v := (nI (F i).val)) i (rfl) (by omega) (hI.1.mad (hM i hi)) dX2_put_51 ?_
      obtain ⟨ν5, eν5⟩ : ∃ ζ : mSt, ζ = mRo ν1 i0 (upd (mn ν1 i0) i (nI (F i).val)) := ⟨_, rfl⟩
      refine mNumSt (pc := 52) hC (K := i0) (by omega) i (rfl) (by omega) eν5 dX2_put_52 ?_
      refine gIinc (pc := 53) hC (v := (nI (i + 1))) (lv' := [(3, .int (nI (i + 1))), (2, .int (nI (cd G F (i + 1)))), (0, .ref (kx L)), (1, .int (nI i0))]) dX2_put_53 (q := 1) rfl (nI_1 _) (by decide) rfl ?_
      refine gGoto (pc := 56) hC (tgt := 4) dX2_put_56 (by decide) ?_
      refine gLoc (lv' := [(3, .int (nI (i + 1))), (2, .int (nI (cd G F (i + 1)))), (0, .ref (kx L)), (1, .int (nI i0))]) [0, 1, 2, 3] rfl ?_
      exact ih (ν5, (nI (cd G F (i + 1)))) (⟨hI.1.step eν5 rfl, rfl⟩)

abbrev rmX2_putZeros : Room := { frames := 1, cells := 0, slots := 0, locals := 23 }
set_option maxRecDepth 100000 in
set_option maxHeartbeats 4000000 in
theorem c_X2_putZeros (l : Launch) (D : va_G) (L : mLay) (μ : mSt) (i0 n : Nat) (G F : Nat → Rg) (hi0 : i0 < 4) (hle : ml μ i0 = nI n) (hG : mIs μ i0 n G) (hM : ∀ j, j < n → mm μ j = nI (F j).val) (hn : n ≤ 16) : gM l yX2_putZeros wsX2_putZeros rmX2_putZeros D (mTy L) (WM L μ) [.ref (kx L), .int (nI i0)] 0 0 (fun r w => r = some (.int (nI (cz F n))) ∧ ∃ μ', w = WM L μ' ∧ mPut μ i0 F n μ') := by
  refine gM.of (cc := cX2_putZeros) (maxL := 2) (ret := (some .int)) (own := RX2) (by decide) rfl rfl (Nat.le_of_ble_eq_true rfl) rfl ?_
  intro p e s m args below meth c A Q hC hr hnm hQ
  refine gAloadN (pc := 0) hC dX2_putZeros_0 rfl 0 rfl ?_
  refine gIloadN (pc := 1) hC dX2_putZeros_1 rfl 1 rfl ?_
  refine gV (pc := 2) (rest := []) (ci := 2) (q0 := 0) hC (c_X2_put l D L μ i0 n G F hi0 hle hG hM hn) rfl rfl (cwV 1 hC.2.2.2.2.1 gX2_putZeros_X2_put rfl rfl rfl (by decide +kernel) ⟨Nat.le_of_ble_eq_true rfl, Nat.le_of_ble_eq_true rfl⟩) rfl rfl (Nat.le_of_ble_eq_true rfl) dX2_putZeros_2 ⟨Nat.le_of_ble_eq_true rfl, Nat.le_of_ble_eq_true rfl⟩ (fun v w1 hp => ?_)
  obtain ⟨rfl, μ', rfl, h⟩ := hp
  refine gStk (st' := [.int (nI (cd G F n))]) (pc' := 5) rfl rfl ?_
  refine gPop (pc := 5) hC dX2_putZeros_5 rfl ?_
  refine gAloadN (pc := 6) hC dX2_putZeros_6 rfl 0 rfl ?_
  refine gIloadN (pc := 7) hC dX2_putZeros_7 rfl 1 rfl ?_
  refine gV (pc := 8) (rest := []) (ci := 2) (q0 := 0) hC (c_X2_zerosOf l D L μ' i0 n F hi0 (h.len hle) h.is hn) rfl rfl (cwV 1 hC.2.2.2.2.1 gX2_putZeros_X2_zerosOf rfl rfl rfl (by decide +kernel) ⟨Nat.le_of_ble_eq_true rfl, Nat.le_of_ble_eq_true rfl⟩) rfl rfl (Nat.le_of_ble_eq_true rfl) dX2_putZeros_8 ⟨Nat.le_of_ble_eq_true rfl, Nat.le_of_ble_eq_true rfl⟩ (fun v w1 hp => ?_)
  obtain ⟨rfl, rfl⟩ := hp
  refine gStk (st' := [.int (nI (cz F n))]) (pc' := 11) rfl rfl ?_
  exact gRetI hC hQ hr (Nat.le_of_ble_eq_true rfl) (Nat.le_of_ble_eq_true rfl) dX2_putZeros_11 (⟨rfl, μ', rfl, h⟩)

def dLikeDec (Δ : dSt) (i j : Nat) : Decidable (dLike Δ i j) := by unfold dLike; infer_instance

abbrev rmX2_areAlike : Room := { frames := 0, cells := 0, slots := 0, locals := 0 }
set_option maxRecDepth 100000 in
set_option maxHeartbeats 4000000 in
theorem c_X2_areAlike (l : Launch) (D : va_G) (L : mLay) (μ : mSt) (Δ : dSt) (i0 j0 : Nat) [Decidable (dLike Δ i0 j0)] (hi0 : i0 < 4) (hj0 : j0 < 4) (hR : mRel μ Δ) : gM l yX2_areAlike wsX2_areAlike rmX2_areAlike D (mTy L) (WM L μ) [.ref (kx L), .int (nI i0), .int (nI j0)] 0 0 (fun r w => w = WM L μ ∧ r = some (.int (bI (dLike Δ i0 j0)))) := by
  refine gM.of (cc := cX2_areAlike) (maxL := 5) (ret := (some .boolean)) (own := RX2) (by decide) rfl rfl (Nat.le_of_ble_eq_true rfl) rfl ?_
  intro p e s m args below meth c A Q hC hr hnm hQ
  have hin2 : ∀ w ∈ u_ws RX2 TX2 6, w ∈ wsX2_areAlike := by decide +kernel
  have hl11 : Cond.fieldLink RX2 11 "RootrowsModel" "numbers" "[[I" ∈ wsX2_areAlike := by decide +kernel
  have hl14 : Cond.fieldLink RX2 14 "RootrowsModel" "lengths" "[I" ∈ wsX2_areAlike := by decide +kernel
  refine gAloadN (pc := 0) hC dX2_areAlike_0 rfl 0 rfl ?_
  refine mGetArr (pc := 1) hC 1 (a := (kl L)) (by decide) ⟨rfl, rfl, rfl⟩ hin2 hl14 dX2_areAlike_1 ?_
  refine gIloadN (pc := 4) hC dX2_areAlike_4 rfl 1 rfl ?_
  refine mLenLd (pc := 5) hC i0 (rfl) (hi0) rfl dX2_areAlike_5 ?_
  refine gAloadN (pc := 6) hC dX2_areAlike_6 rfl 0 rfl ?_
  refine mGetArr (pc := 7) hC 1 (a := (kl L)) (by decide) ⟨rfl, rfl, rfl⟩ hin2 hl14 dX2_areAlike_7 ?_
  refine gIloadN (pc := 10) hC dX2_areAlike_10 rfl 2 rfl ?_
  refine mLenLd (pc := 11) hC j0 (rfl) (hj0) rfl dX2_areAlike_11 ?_
  refine gIcmp_ne (pc := 12) hC (tgt := 19) dX2_areAlike_12 (by decide) (fun hc1 => ?_) (fun hc1 => ?_)
  · skip
    refine gIconst (pc := 19) hC (v := (nI 0)) dX2_areAlike_19 (by decide +kernel) ?_
    refine gIstoreN (pc := 20) hC (lv' := [(3, .int (nI 0)), (0, .ref (kx L)), (1, .int (nI i0)), (2, .int (nI j0))]) dX2_areAlike_20 rfl (by decide) rfl ?_
    refine gIconst (pc := 21) hC (v := (nI 0)) dX2_areAlike_21 (by decide +kernel) ?_
    refine gIstore (pc := 22) hC (lv' := [(4, .int (nI 0)), (3, .int (nI 0)), (0, .ref (kx L)), (1, .int (nI i0)), (2, .int (nI j0))]) dX2_areAlike_22 (by decide) rfl ?_
    refine gLoc (lv' := [(4, .int (nI 0)), (3, .int (nI 0)), (0, .ref (kx L)), (1, .int (nI i0)), (2, .int (nI j0))]) [0, 1, 2, 3, 4] rfl ?_
    refine loopUp (S := Int32) (fun i ζ => gG p l e rmX2_areAlike s m args below meth c D A 5 0 0 Q (WM L μ) 24 [(4, .int (nI i)), (3, .int ζ), (0, .ref (kx L)), (1, .int (nI i0)), (2, .int (nI j0))] []) (fun i ζ => ζ = bI (ml μ i0 = ml μ j0 ∧ ∀ t, t < i → mn μ i0 t = mn μ j0 t)) 16 ?_ ?_ 0 ((nI 0)) (by omega) ((bI_f (fun q => hc1 q.1)).symm)
    · intro ζ hI
      revert hI; generalize ζ = c1; intro hI
      refine gIload (pc := 24) hC dX2_areAlike_24 0 rfl ?_
      refine gBipush (pc := 26) hC (v := (nI 16)) dX2_areAlike_26 (by decide +kernel) ?_
      refine gIcmp_ge (pc := 28) hC (tgt := 68) dX2_areAlike_28 (by decide) (fun hc2 => ?_) (fun hc2 => absurd (nI_le (Nat.le_refl _) (by decide)) hc2)
      refine gIloadN (pc := 68) hC dX2_areAlike_68 rfl 1 rfl ?_
      exact gRetZ hC hQ hr (by rw [hI]; exact bI_ret) (Nat.le_of_ble_eq_true rfl) (Nat.le_of_ble_eq_true rfl) dX2_areAlike_69 (⟨rfl, by rw [hI, bI_c (m_alike hR hi0 hj0)]⟩)
    · intro i ζ hi hI ih
      revert hI; generalize ζ = c1; intro hI
      refine gIload (pc := 24) hC dX2_areAlike_24 0 rfl ?_
      refine gBipush (pc := 26) hC (v := (nI 16)) dX2_areAlike_26 (by decide +kernel) ?_
      refine gIcmp_ge (pc := 28) hC (tgt := 68) dX2_areAlike_28 (by decide) (fun hc3 => absurd hc3 (nI_ge hi (by decide))) (fun hc3 => ?_)
      refine gIloadN (pc := 31) hC dX2_areAlike_31 rfl 1 rfl ?_
      refine gIf_eq (pc := 32) hC (tgt := 60) dX2_areAlike_32 (by decide) (fun hc4 => ?_) (fun hc4 => ?_)
      · skip
        rw [hI] at hc4
        refine gIconst (pc := 60) hC (v := (nI 0)) dX2_areAlike_60 (by decide +kernel) ?_
        refine gIstoreN (pc := 61) hC (lv' := [(3, .int (nI 0)), (4, .int (nI i)), (0, .ref (kx L)), (1, .int (nI i0)), (2, .int (nI j0))]) dX2_areAlike_61 rfl (by decide) rfl ?_
        refine gIinc (pc := 62) hC (v := (nI (i + 1))) (lv' := [(4, .int (nI (i + 1))), (3, .int (nI 0)), (0, .ref (kx L)), (1, .int (nI i0)), (2, .int (nI j0))]) dX2_areAlike_62 (q := 1) rfl (nI_1 _) (by decide) rfl ?_
        refine gGoto (pc := 65) hC (tgt := 24) dX2_areAlike_65 (by decide) ?_
        refine gLoc (lv' := [(4, .int (nI (i + 1))), (3, .int (nI 0)), (0, .ref (kx L)), (1, .int (nI i0)), (2, .int (nI j0))]) [0, 1, 2, 3, 4] rfl ?_
        exact ih ((nI 0)) ((bI_f (fun q => bI_0.mp hc4 ⟨q.1, fun t ht => q.2 t (by omega)⟩)).symm)
      · skip
        rw [hI] at hc4
        refine gAloadN (pc := 35) hC dX2_areAlike_35 rfl 2 rfl ?_
        refine mGetArr (pc := 36) hC 0 (a := (kn L)) (by decide) ⟨rfl, rfl, rfl⟩ hin2 hl11 dX2_areAlike_36 ?_
        refine gIloadN (pc := 39) hC dX2_areAlike_39 rfl 3 rfl ?_
        refine mRowAld (pc := 40) hC i0 (rfl) (hi0) dX2_areAlike_40 ?_
        refine gIload (pc := 41) hC dX2_areAlike_41 0 rfl ?_
        refine mNumLd (pc := 43) hC (K := i0) (by omega) i (rfl) (by omega) rfl dX2_areAlike_43 ?_
        refine gAloadN (pc := 44) hC dX2_areAlike_44 rfl 2 rfl ?_
        refine mGetArr (pc := 45) hC 0 (a := (kn L)) (by decide) ⟨rfl, rfl, rfl⟩ hin2 hl11 dX2_areAlike_45 ?_
        refine gIloadN (pc := 48) hC dX2_areAlike_48 rfl 4 rfl ?_
        refine mRowAld (pc := 49) hC j0 (rfl) (hj0) dX2_areAlike_49 ?_
        refine gIload (pc := 50) hC dX2_areAlike_50 0 rfl ?_
        refine mNumLd (pc := 52) hC (K := j0) (by omega) i (rfl) (by omega) rfl dX2_areAlike_52 ?_
        refine gIcmp_ne (pc := 53) hC (tgt := 60) dX2_areAlike_53 (by decide) (fun hc5 => ?_) (fun hc5 => ?_)
        · skip
          refine gIconst (pc := 60) hC (v := (nI 0)) dX2_areAlike_60 (by decide +kernel) ?_
          refine gIstoreN (pc := 61) hC (lv' := [(3, .int (nI 0)), (4, .int (nI i)), (0, .ref (kx L)), (1, .int (nI i0)), (2, .int (nI j0))]) dX2_areAlike_61 rfl (by decide) rfl ?_
          refine gIinc (pc := 62) hC (v := (nI (i + 1))) (lv' := [(4, .int (nI (i + 1))), (3, .int (nI 0)), (0, .ref (kx L)), (1, .int (nI i0)), (2, .int (nI j0))]) dX2_areAlike_62 (q := 1) rfl (nI_1 _) (by decide) rfl ?_
          refine gGoto (pc := 65) hC (tgt := 24) dX2_areAlike_65 (by decide) ?_
          refine gLoc (lv' := [(4, .int (nI (i + 1))), (3, .int (nI 0)), (0, .ref (kx L)), (1, .int (nI i0)), (2, .int (nI j0))]) [0, 1, 2, 3, 4] rfl ?_
          exact ih ((nI 0)) ((bI_f (fun q => hc5 (q.2 i (Nat.lt_succ_self i)))).symm)
        · skip
          refine gIconst (pc := 56) hC (v := (nI 1)) dX2_areAlike_56 (by decide +kernel) ?_
          refine gGoto (pc := 57) hC (tgt := 61) dX2_areAlike_57 (by decide) ?_
          refine gIstoreN (pc := 61) hC (lv' := [(3, .int (nI 1)), (4, .int (nI i)), (0, .ref (kx L)), (1, .int (nI i0)), (2, .int (nI j0))]) dX2_areAlike_61 rfl (by decide) rfl ?_
          refine gIinc (pc := 62) hC (v := (nI (i + 1))) (lv' := [(4, .int (nI (i + 1))), (3, .int (nI 1)), (0, .ref (kx L)), (1, .int (nI i0)), (2, .int (nI j0))]) dX2_areAlike_62 (q := 1) rfl (nI_1 _) (by decide) rfl ?_
          refine gGoto (pc := 65) hC (tgt := 24) dX2_areAlike_65 (by decide) ?_
          refine gLoc (lv' := [(4, .int (nI (i + 1))), (3, .int (nI 1)), (0, .ref (kx L)), (1, .int (nI i0)), (2, .int (nI j0))]) [0, 1, 2, 3, 4] rfl ?_
          exact ih ((nI 1)) ((bI_t ⟨(bI_n.mp hc4).1, lt_s (bI_n.mp hc4).2 hc5⟩).symm)
  · skip
    refine gIconst (pc := 15) hC (v := (nI 1)) dX2_areAlike_15 (by decide +kernel) ?_
    refine gGoto (pc := 16) hC (tgt := 20) dX2_areAlike_16 (by decide) ?_
    refine gIstoreN (pc := 20) hC (lv' := [(3, .int (nI 1)), (0, .ref (kx L)), (1, .int (nI i0)), (2, .int (nI j0))]) dX2_areAlike_20 rfl (by decide) rfl ?_
    refine gIconst (pc := 21) hC (v := (nI 0)) dX2_areAlike_21 (by decide +kernel) ?_
    refine gIstore (pc := 22) hC (lv' := [(4, .int (nI 0)), (3, .int (nI 1)), (0, .ref (kx L)), (1, .int (nI i0)), (2, .int (nI j0))]) dX2_areAlike_22 (by decide) rfl ?_
    refine gLoc (lv' := [(4, .int (nI 0)), (3, .int (nI 1)), (0, .ref (kx L)), (1, .int (nI i0)), (2, .int (nI j0))]) [0, 1, 2, 3, 4] rfl ?_
    refine loopUp (S := Int32) (fun i ζ => gG p l e rmX2_areAlike s m args below meth c D A 5 0 0 Q (WM L μ) 24 [(4, .int (nI i)), (3, .int ζ), (0, .ref (kx L)), (1, .int (nI i0)), (2, .int (nI j0))] []) (fun i ζ => ζ = bI (ml μ i0 = ml μ j0 ∧ ∀ t, t < i → mn μ i0 t = mn μ j0 t)) 16 ?_ ?_ 0 ((nI 1)) (by omega) ((bI_t ⟨hc1, fun t ht => absurd ht (Nat.not_lt_zero t)⟩).symm)
    · intro ζ hI
      revert hI; generalize ζ = c1; intro hI
      refine gIload (pc := 24) hC dX2_areAlike_24 0 rfl ?_
      refine gBipush (pc := 26) hC (v := (nI 16)) dX2_areAlike_26 (by decide +kernel) ?_
      refine gIcmp_ge (pc := 28) hC (tgt := 68) dX2_areAlike_28 (by decide) (fun hc6 => ?_) (fun hc6 => absurd (nI_le (Nat.le_refl _) (by decide)) hc6)
      refine gIloadN (pc := 68) hC dX2_areAlike_68 rfl 1 rfl ?_
      exact gRetZ hC hQ hr (by rw [hI]; exact bI_ret) (Nat.le_of_ble_eq_true rfl) (Nat.le_of_ble_eq_true rfl) dX2_areAlike_69 (⟨rfl, by rw [hI, bI_c (m_alike hR hi0 hj0)]⟩)
    · intro i ζ hi hI ih
      revert hI; generalize ζ = c1; intro hI
      refine gIload (pc := 24) hC dX2_areAlike_24 0 rfl ?_
      refine gBipush (pc := 26) hC (v := (nI 16)) dX2_areAlike_26 (by decide +kernel) ?_
      refine gIcmp_ge (pc := 28) hC (tgt := 68) dX2_areAlike_28 (by decide) (fun hc7 => absurd hc7 (nI_ge hi (by decide))) (fun hc7 => ?_)
      refine gIloadN (pc := 31) hC dX2_areAlike_31 rfl 1 rfl ?_
      refine gIf_eq (pc := 32) hC (tgt := 60) dX2_areAlike_32 (by decide) (fun hc8 => ?_) (fun hc8 => ?_)
      · skip
        rw [hI] at hc8
        refine gIconst (pc := 60) hC (v := (nI 0)) dX2_areAlike_60 (by decide +kernel) ?_
        refine gIstoreN (pc := 61) hC (lv' := [(3, .int (nI 0)), (4, .int (nI i)), (0, .ref (kx L)), (1, .int (nI i0)), (2, .int (nI j0))]) dX2_areAlike_61 rfl (by decide) rfl ?_
        refine gIinc (pc := 62) hC (v := (nI (i + 1))) (lv' := [(4, .int (nI (i + 1))), (3, .int (nI 0)), (0, .ref (kx L)), (1, .int (nI i0)), (2, .int (nI j0))]) dX2_areAlike_62 (q := 1) rfl (nI_1 _) (by decide) rfl ?_
        refine gGoto (pc := 65) hC (tgt := 24) dX2_areAlike_65 (by decide) ?_
        refine gLoc (lv' := [(4, .int (nI (i + 1))), (3, .int (nI 0)), (0, .ref (kx L)), (1, .int (nI i0)), (2, .int (nI j0))]) [0, 1, 2, 3, 4] rfl ?_
        exact ih ((nI 0)) ((bI_f (fun q => bI_0.mp hc8 ⟨q.1, fun t ht => q.2 t (by omega)⟩)).symm)
      · skip
        rw [hI] at hc8
        refine gAloadN (pc := 35) hC dX2_areAlike_35 rfl 2 rfl ?_
        refine mGetArr (pc := 36) hC 0 (a := (kn L)) (by decide) ⟨rfl, rfl, rfl⟩ hin2 hl11 dX2_areAlike_36 ?_
        refine gIloadN (pc := 39) hC dX2_areAlike_39 rfl 3 rfl ?_
        refine mRowAld (pc := 40) hC i0 (rfl) (hi0) dX2_areAlike_40 ?_
        refine gIload (pc := 41) hC dX2_areAlike_41 0 rfl ?_
        refine mNumLd (pc := 43) hC (K := i0) (by omega) i (rfl) (by omega) rfl dX2_areAlike_43 ?_
        refine gAloadN (pc := 44) hC dX2_areAlike_44 rfl 2 rfl ?_
        refine mGetArr (pc := 45) hC 0 (a := (kn L)) (by decide) ⟨rfl, rfl, rfl⟩ hin2 hl11 dX2_areAlike_45 ?_
        refine gIloadN (pc := 48) hC dX2_areAlike_48 rfl 4 rfl ?_
        refine mRowAld (pc := 49) hC j0 (rfl) (hj0) dX2_areAlike_49 ?_
        refine gIload (pc := 50) hC dX2_areAlike_50 0 rfl ?_
        refine mNumLd (pc := 52) hC (K := j0) (by omega) i (rfl) (by omega) rfl dX2_areAlike_52 ?_
        refine gIcmp_ne (pc := 53) hC (tgt := 60) dX2_areAlike_53 (by decide) (fun hc9 => ?_) (fun hc9 => ?_)
        · skip
          refine gIconst (pc := 60) hC (v := (nI 0)) dX2_areAlike_60 (by decide +kernel) ?_
          refine gIstoreN (pc := 61) hC (lv' := [(3, .int (nI 0)), (4, .int (nI i)), (0, .ref (kx L)), (1, .int (nI i0)), (2, .int (nI j0))]) dX2_areAlike_61 rfl (by decide) rfl ?_
          refine gIinc (pc := 62) hC (v := (nI (i + 1))) (lv' := [(4, .int (nI (i + 1))), (3, .int (nI 0)), (0, .ref (kx L)), (1, .int (nI i0)), (2, .int (nI j0))]) dX2_areAlike_62 (q := 1) rfl (nI_1 _) (by decide) rfl ?_
          refine gGoto (pc := 65) hC (tgt := 24) dX2_areAlike_65 (by decide) ?_
          refine gLoc (lv' := [(4, .int (nI (i + 1))), (3, .int (nI 0)), (0, .ref (kx L)), (1, .int (nI i0)), (2, .int (nI j0))]) [0, 1, 2, 3, 4] rfl ?_
          exact ih ((nI 0)) ((bI_f (fun q => hc9 (q.2 i (Nat.lt_succ_self i)))).symm)
        · skip
          refine gIconst (pc := 56) hC (v := (nI 1)) dX2_areAlike_56 (by decide +kernel) ?_
          refine gGoto (pc := 57) hC (tgt := 61) dX2_areAlike_57 (by decide) ?_
          refine gIstoreN (pc := 61) hC (lv' := [(3, .int (nI 1)), (4, .int (nI i)), (0, .ref (kx L)), (1, .int (nI i0)), (2, .int (nI j0))]) dX2_areAlike_61 rfl (by decide) rfl ?_
          refine gIinc (pc := 62) hC (v := (nI (i + 1))) (lv' := [(4, .int (nI (i + 1))), (3, .int (nI 1)), (0, .ref (kx L)), (1, .int (nI i0)), (2, .int (nI j0))]) dX2_areAlike_62 (q := 1) rfl (nI_1 _) (by decide) rfl ?_
          refine gGoto (pc := 65) hC (tgt := 24) dX2_areAlike_65 (by decide) ?_
          refine gLoc (lv' := [(4, .int (nI (i + 1))), (3, .int (nI 1)), (0, .ref (kx L)), (1, .int (nI i0)), (2, .int (nI j0))]) [0, 1, 2, 3, 4] rfl ?_
          exact ih ((nI 1)) ((bI_t ⟨(bI_n.mp hc8).1, lt_s (bI_n.mp hc8).2 hc9⟩).symm)

theorem m_negI {i : Nat} (hi : i < 2 ^ 30) : (-nI i).toInt = -(i : Int) := by
  rw [Int32.toInt_neg, nI_toInt (by omega), m_bmod (by omega) (by omega)]

abbrev rmX2_turned : Room := { frames := 1, cells := 0, slots := 0, locals := 23 }
set_option maxRecDepth 100000 in
set_option maxHeartbeats 4000000 in
theorem c_X2_turned (l : Launch) (D : va_G) (L : mLay) (μ : mSt) (i0 n : Nat) (F : Nat → Rg) (hi0 : i0 < 4) (hle : ml μ i0 = nI n) (hF : mIs μ i0 n F) (hn : okN n) : gM l yX2_turned wsX2_turned rmX2_turned D (mTy L) (WM L μ) [.ref (kx L), .int (nI i0)] 0 0 (fun r w => r = none ∧ ∃ μ', w = WM L μ' ∧ mFill μ (fun i => F (ix n (-(i : Int)))) n μ') := by
  refine gM.of (cc := cX2_turned) (maxL := 4) (ret := none) (own := RX2) (by decide) rfl rfl (Nat.le_of_ble_eq_true rfl) rfl ?_
  intro p e s m args below meth c A Q hC hr hnm hQ
  have hin2 : ∀ w ∈ u_ws RX2 TX2 6, w ∈ wsX2_turned := by decide +kernel
  have hl11 : Cond.fieldLink RX2 11 "RootrowsModel" "numbers" "[[I" ∈ wsX2_turned := by decide +kernel
  have hl14 : Cond.fieldLink RX2 14 "RootrowsModel" "lengths" "[I" ∈ wsX2_turned := by decide +kernel
  have hl18 : Cond.fieldLink RX2 18 "RootrowsModel" "made" "[I" ∈ wsX2_turned := by decide +kernel
  have hnl := hn.le
  refine gAloadN (pc := 0) hC dX2_turned_0 rfl 0 rfl ?_
  refine mGetArr (pc := 1) hC 1 (a := (kl L)) (by decide) ⟨rfl, rfl, rfl⟩ hin2 hl14 dX2_turned_1 ?_
  refine gIloadN (pc := 4) hC dX2_turned_4 rfl 1 rfl ?_
  refine mLenLd (pc := 5) hC (v := (nI n)) i0 (rfl) (hi0) (hle) dX2_turned_5 ?_
  refine gIstoreN (pc := 6) hC (lv' := [(2, .int (nI n)), (0, .ref (kx L)), (1, .int (nI i0))]) dX2_turned_6 rfl (by decide) rfl ?_
  refine gIconst (pc := 7) hC (v := (nI 0)) dX2_turned_7 (by decide +kernel) ?_
  refine gIstoreN (pc := 8) hC (lv' := [(3, .int (nI 0)), (2, .int (nI n)), (0, .ref (kx L)), (1, .int (nI i0))]) dX2_turned_8 rfl (by decide) rfl ?_
  refine gLoc (lv' := [(3, .int (nI 0)), (2, .int (nI n)), (0, .ref (kx L)), (1, .int (nI i0))]) [0, 1, 2, 3] rfl ?_
  refine loopUp (S := mSt) (fun i ζ => gG p l e rmX2_turned s m args below meth c D A 4 0 0 Q (WM L ζ) 9 [(3, .int (nI i)), (2, .int (nI n)), (0, .ref (kx L)), (1, .int (nI i0))] []) (fun i ζ => mFill μ (fun i => F (ix n (-(i : Int)))) i ζ) n ?_ ?_ 0 (μ) (by omega) (mFill.zero μ _)
  · intro ζ hI
    revert hI; generalize ζ = ν1; intro hI
    refine gIloadN (pc := 9) hC dX2_turned_9 rfl 0 rfl ?_
    refine gIloadN (pc := 10) hC dX2_turned_10 rfl 1 rfl ?_
    refine gIcmp_ge (pc := 11) hC (tgt := 40) dX2_turned_11 (by decide) (fun hc1 => ?_) (fun hc1 => absurd (nI_le (Nat.le_refl _) (by omega)) hc1)
    exact gRetV hC hQ hr (Nat.le_of_ble_eq_true rfl) (Nat.le_of_ble_eq_true rfl) dX2_turned_40 (⟨rfl, ν1, rfl, hI⟩)
  · intro i ζ hi hI ih
    revert hI; generalize ζ = ν1; intro hI
    have hF2 := hI.is hF
    refine gIloadN (pc := 9) hC dX2_turned_9 rfl 0 rfl ?_
    refine gIloadN (pc := 10) hC dX2_turned_10 rfl 1 rfl ?_
    refine gIcmp_ge (pc := 11) hC (tgt := 40) dX2_turned_11 (by decide) (fun hc2 => absurd hc2 (nI_ge hi (by omega))) (fun hc2 => ?_)
    refine gAloadN (pc := 14) hC dX2_turned_14 rfl 2 rfl ?_
    refine mGetArr (pc := 15) hC 2 (a := (km L)) (by decide) ⟨rfl, rfl, rfl⟩ hin2 hl18 dX2_turned_15 ?_
    refine gIloadN (pc := 18) hC dX2_turned_18 rfl 0 rfl ?_
    refine gAloadN (pc := 19) hC dX2_turned_19 rfl 2 rfl ?_
    refine mGetArr (pc := 20) hC 0 (a := (kn L)) (by decide) ⟨rfl, rfl, rfl⟩ hin2 hl11 dX2_turned_20 ?_
    refine gIloadN (pc := 23) hC dX2_turned_23 rfl 3 rfl ?_
    refine mRowAld (pc := 24) hC i0 (rfl) (hi0) dX2_turned_24 ?_
    refine gIloadN (pc := 25) hC dX2_turned_25 rfl 0 rfl ?_
    refine gIneg (pc := 26) hC dX2_turned_26 rfl ?_
    refine gI2l (pc := 27) hC dX2_turned_27 rfl ?_
    refine gIloadN (pc := 28) hC dX2_turned_28 rfl 1 rfl ?_
    refine gS (pc := 29) (rest := [.ref (ka L i0), .int (nI i), .ref (km L)]) hC (c_X2_left l D _ _ _ n (-(i : Int)) hn (by rw [i64_of]; exact m_negI (by omega))) (va_cwS 2 hC.2.2.2.2.1 gX2_turned_X2_left rfl rfl rfl (by decide +kernel) ⟨Nat.le_of_ble_eq_true rfl, Nat.le_of_ble_eq_true rfl⟩) rfl rfl (Nat.le_of_ble_eq_true rfl) dX2_turned_29 ⟨Nat.le_of_ble_eq_true rfl, Nat.le_of_ble_eq_true rfl⟩ (fun v w1 hp => ?_)
    obtain ⟨rfl, rfl⟩ := hp
    refine gStk (st' := [.int (nI (ix n (-(i : Int)))), .ref (ka L i0), .int (nI i), .ref (km L)]) (pc' := 32) rfl rfl ?_
    have hx := ix_lt hn.pos (-(i : Int))
    refine mNumLd (pc := 32) hC (K := i0) (v := (nI (F (ix n (-(i : Int)))).val)) (by omega) (ix n (-(i : Int))) (rfl) (by omega) (hF2 _ hx) dX2_turned_32 ?_
    obtain ⟨ν3, eν3⟩ : ∃ ζ : mSt, ζ = mMa ν1 (upd (mm ν1) i (nI (F (ix n (-(i : Int)))).val)) := ⟨_, rfl⟩
    refine mMadSt (pc := 33) hC i (rfl) (by omega) eν3 dX2_turned_33 ?_
    refine gIinc (pc := 34) hC (v := (nI (i + 1))) (lv' := [(3, .int (nI (i + 1))), (2, .int (nI n)), (0, .ref (kx L)), (1, .int (nI i0))]) dX2_turned_34 (q := 0) rfl (nI_1 _) (by decide) rfl ?_
    refine gGoto (pc := 37) hC (tgt := 9) dX2_turned_37 (by decide) ?_
    refine gLoc (lv' := [(3, .int (nI (i + 1))), (2, .int (nI n)), (0, .ref (kx L)), (1, .int (nI i0))]) [0, 1, 2, 3] rfl ?_
    exact ih (ν3) (hI.step eν3 rfl)
