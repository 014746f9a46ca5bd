abbrev rmX2_multiplied : Room := { frames := 1, cells := 0, slots := 0, locals := 24 }
set_option maxRecDepth 100000 in
set_option maxHeartbeats 4000000 in
theorem c_X2_multiplied (l : Launch) (D : va_G) (L : mLay) (μ : mSt) (i0 j0 n q : Nat) (F G : Nat → Rg) (hi0 : i0 < 4) (hj0 : j0 < 4) (hle : ml μ i0 = nI n) (hF : mIs μ i0 n F) (hG : mIs μ j0 n G) (hn : n ≤ 16) (hq0 : 0 < q) (hq : q ≤ 16) : gM l yX2_multiplied wsX2_multiplied rmX2_multiplied D (mTy L) (WM L μ) [.ref (kx L), .int (nI i0), .int (nI j0), .int (nI q)] 0 0 (fun r w => r = none ∧ ∃ μ', w = WM L μ' ∧ mFill μ (mq n q F G) q μ') := by
  refine gM.of (cc := cX2_multiplied) (maxL := 9) (ret := none) (own := RX2) (by decide) rfl rfl (Nat.le_of_ble_eq_true rfl) rfl ?_
  intro p e s m args below meth c A Q hC hr hnm hQ
  have hin2 : ∀ w ∈ u_ws RX2 TX2 6, w ∈ wsX2_multiplied := by decide +kernel
  have hl11 : Cond.fieldLink RX2 11 "RootrowsModel" "numbers" "[[I" ∈ wsX2_multiplied := by decide +kernel
  have hl14 : Cond.fieldLink RX2 14 "RootrowsModel" "lengths" "[I" ∈ wsX2_multiplied := by decide +kernel
  have hl18 : Cond.fieldLink RX2 18 "RootrowsModel" "made" "[I" ∈ wsX2_multiplied := by decide +kernel
  have hnl := hn
  refine gAloadN (pc := 0) hC dX2_multiplied_0 rfl 0 rfl ?_
  refine mGetArr (pc := 1) hC 1 (a := (kl L)) (by decide) ⟨rfl, rfl, rfl⟩ hin2 hl14 dX2_multiplied_1 ?_
  refine gIloadN (pc := 4) hC dX2_multiplied_4 rfl 1 rfl ?_
  refine mLenLd (pc := 5) hC (v := (nI n)) i0 (rfl) (hi0) (hle) dX2_multiplied_5 ?_
  refine gIstore (pc := 6) hC (lv' := [(4, .int (nI n)), (0, .ref (kx L)), (1, .int (nI i0)), (2, .int (nI j0)), (3, .int (nI q))]) dX2_multiplied_6 (by decide) rfl ?_
  refine gIconst (pc := 8) hC (v := (nI 0)) dX2_multiplied_8 (by decide +kernel) ?_
  refine gIstore (pc := 9) hC (lv' := [(5, .int (nI 0)), (4, .int (nI n)), (0, .ref (kx L)), (1, .int (nI i0)), (2, .int (nI j0)), (3, .int (nI q))]) dX2_multiplied_9 (by decide) rfl ?_
  refine gLoc (lv' := [(5, .int (nI 0)), (0, .ref (kx L)), (1, .int (nI i0)), (2, .int (nI j0)), (3, .int (nI q)), (4, .int (nI n))]) [0, 2, 3, 4, 5, 1] rfl ?_
  refine loopUp (S := mSt) (fun k ζ => gG p l e rmX2_multiplied s m args below meth c D A 9 0 0 Q (WM L ζ) 11 [(5, .int (nI k)), (0, .ref (kx L)), (1, .int (nI i0)), (2, .int (nI j0)), (3, .int (nI q)), (4, .int (nI n))] []) (fun k ζ => mFill μ (mq n q F G) k ζ) q ?_ ?_ 0 (μ) (by omega) (mFill.zero μ _)
  · intro ζ hI
    revert hI; generalize ζ = ν1; intro hI
    refine gIload (pc := 11) hC dX2_multiplied_11 0 rfl ?_
    refine gIloadN (pc := 13) hC dX2_multiplied_13 rfl 4 rfl ?_
    refine gIcmp_ge (pc := 14) hC (tgt := 111) dX2_multiplied_14 (by decide) (fun hc1 => ?_) (fun hc1 => absurd (nI_le (Nat.le_refl _) (by omega)) hc1)
    exact gRetV hC hQ hr (Nat.le_of_ble_eq_true rfl) (Nat.le_of_ble_eq_true rfl) dX2_multiplied_111 (⟨rfl, ν1, rfl, hI⟩)
  · intro k ζ hi hI ih
    revert hI; generalize ζ = ν1; intro hI
    refine gIload (pc := 11) hC dX2_multiplied_11 0 rfl ?_
    refine gIloadN (pc := 13) hC dX2_multiplied_13 rfl 4 rfl ?_
    refine gIcmp_ge (pc := 14) hC (tgt := 111) dX2_multiplied_14 (by decide) (fun hc2 => absurd hc2 (nI_ge hi (by omega))) (fun hc2 => ?_)
    refine gIconst (pc := 17) hC (v := (nI 0)) dX2_multiplied_17 (by decide +kernel) ?_
    refine gIstore (pc := 18) hC (lv' := [(6, .int (nI 0)), (5, .int (nI k)), (0, .ref (kx L)), (1, .int (nI i0)), (2, .int (nI j0)), (3, .int (nI q)), (4, .int (nI n))]) dX2_multiplied_18 (by decide) rfl ?_
    refine gIconst (pc := 20) hC (v := (nI 0)) dX2_multiplied_20 (by decide +kernel) ?_
    refine gIstore (pc := 21) hC (lv' := [(7, .int (nI 0)), (6, .int (nI 0)), (5, .int (nI k)), (0, .ref (kx L)), (1, .int (nI i0)), (2, .int (nI j0)), (3, .int (nI q)), (4, .int (nI n))]) dX2_multiplied_21 (by decide) rfl ?_
    have hk := hi
    clear hi
    have hF2 := hI.is hF
    have hG2 := hI.is hG
    refine gLoc (lv' := [(7, .int (nI 0)), (6, .int (nI 0)), (0, .ref (kx L)), (1, .int (nI i0)), (2, .int (nI j0)), (3, .int (nI q)), (4, .int (nI n)), (5, .int (nI k))]) [0, 1, 3, 4, 5, 6, 7, 2] rfl ?_
    refine loopUp (S := Int32) (fun i ζ => gG p l e rmX2_multiplied s m args below meth c D A 9 0 0 Q (WM L ν1) 23 [(7, .int (nI i)), (6, .int ζ), (0, .ref (kx L)), (1, .int (nI i0)), (2, .int (nI j0)), (3, .int (nI q)), (4, .int (nI n)), (5, .int (nI k))] []) (fun i ζ => ζ = nI (pmq n q F G k i 0).val) n ?_ ?_ 0 ((nI 0)) (by omega) (by rw [pmq_00]; rfl)
    · intro ζ hJ
      revert hJ; generalize ζ = c1; intro hJ
      refine gIload (pc := 23) hC dX2_multiplied_23 0 rfl ?_
      refine gIload (pc := 25) hC dX2_multiplied_25 6 rfl ?_
      refine gIcmp_ge (pc := 27) hC (tgt := 96) dX2_multiplied_27 (by decide) (fun hc3 => ?_) (fun hc3 => absurd (nI_le (Nat.le_refl _) (by omega)) hc3)
      refine gAloadN (pc := 96) hC dX2_multiplied_96 rfl 2 rfl ?_
      refine mGetArr (pc := 97) hC 2 (a := (km L)) (by decide) ⟨rfl, rfl, rfl⟩ hin2 hl18 dX2_multiplied_97 ?_
      refine gIload (pc := 100) hC dX2_multiplied_100 7 rfl ?_
      refine gIload (pc := 102) hC dX2_multiplied_102 1 rfl ?_
      obtain ⟨ν4, eν4⟩ : ∃ ζ : mSt, ζ = mMa ν1 (upd (mm ν1) k c1) := ⟨_, rfl⟩
      refine mMadSt (pc := 104) hC k (rfl) (by omega) eν4 dX2_multiplied_104 ?_
      refine gIinc (pc := 105) hC (v := (nI (k + 1))) (lv' := [(5, .int (nI (k + 1))), (7, .int (nI n)), (6, .int c1), (0, .ref (kx L)), (1, .int (nI i0)), (2, .int (nI j0)), (3, .int (nI q)), (4, .int (nI n))]) dX2_multiplied_105 (q := 7) rfl (nI_1 _) (by decide) rfl ?_
      refine gGoto (pc := 108) hC (tgt := 11) dX2_multiplied_108 (by decide) ?_
      refine gLoc (lv' := [(5, .int (nI (k + 1))), (0, .ref (kx L)), (1, .int (nI i0)), (2, .int (nI j0)), (3, .int (nI q)), (4, .int (nI n))]) [0, 3, 4, 5, 6, 7] rfl ?_
      exact ih (ν4) (hI.step eν4 (by rw [hJ, pmq_end]))
    · intro i ζ hi hJ jh
      revert hJ; generalize ζ = c1; intro hJ
      refine gIload (pc := 23) hC dX2_multiplied_23 0 rfl ?_
      refine gIload (pc := 25) hC dX2_multiplied_25 6 rfl ?_
      refine gIcmp_ge (pc := 27) hC (tgt := 96) dX2_multiplied_27 (by decide) (fun hc5 => absurd hc5 (nI_ge hi (by omega))) (fun hc5 => ?_)
      refine gIconst (pc := 30) hC (v := (nI 0)) dX2_multiplied_30 (by decide +kernel) ?_
      refine gIstore (pc := 31) hC (lv' := [(8, .int (nI 0)), (7, .int (nI i)), (6, .int c1), (0, .ref (kx L)), (1, .int (nI i0)), (2, .int (nI j0)), (3, .int (nI q)), (4, .int (nI n)), (5, .int (nI k))]) dX2_multiplied_31 (by decide) rfl ?_
      have hii := hi
      clear hi
      refine gLoc (lv' := [(8, .int (nI 0)), (6, .int c1), (0, .ref (kx L)), (1, .int (nI i0)), (2, .int (nI j0)), (3, .int (nI q)), (4, .int (nI n)), (5, .int (nI k)), (7, .int (nI i))]) [0, 2, 3, 4, 5, 6, 7, 8, 1] rfl ?_
      refine loopUp (S := Int32) (fun j ζ => gG p l e rmX2_multiplied s m args below meth c D A 9 0 0 Q (WM L ν1) 33 [(8, .int (nI j)), (6, .int ζ), (0, .ref (kx L)), (1, .int (nI i0)), (2, .int (nI j0)), (3, .int (nI q)), (4, .int (nI n)), (5, .int (nI k)), (7, .int (nI i))] []) (fun j ζ => ζ = nI (pmq n q F G k i j).val) n ?_ ?_ 0 (c1) (by omega) (hJ)
      · intro ζ hH
        revert hH; generalize ζ = c2; intro hH
        refine gIload (pc := 33) hC dX2_multiplied_33 0 rfl ?_
        refine gIload (pc := 35) hC dX2_multiplied_35 6 rfl ?_
        refine gIcmp_ge (pc := 37) hC (tgt := 90) dX2_multiplied_37 (by decide) (fun hc6 => ?_) (fun hc6 => absurd (nI_le (Nat.le_refl _) (by omega)) hc6)
        refine gIinc (pc := 90) hC (v := (nI (i + 1))) (lv' := [(7, .int (nI (i + 1))), (8, .int (nI n)), (6, .int c2), (0, .ref (kx L)), (1, .int (nI i0)), (2, .int (nI j0)), (3, .int (nI q)), (4, .int (nI n)), (5, .int (nI k))]) dX2_multiplied_90 (q := 8) rfl (nI_1 _) (by decide) rfl ?_
        refine gGoto (pc := 93) hC (tgt := 23) dX2_multiplied_93 (by decide) ?_
        refine gLoc (lv' := [(7, .int (nI (i + 1))), (6, .int c2), (0, .ref (kx L)), (1, .int (nI i0)), (2, .int (nI j0)), (3, .int (nI q)), (4, .int (nI n)), (5, .int (nI k))]) [0, 2, 3, 4, 5, 6, 7, 8] rfl ?_
        exact jh (c2) (by rw [hH, pmq_row])
      · intro j ζ hi hH hh
        revert hH; generalize ζ = c2; intro hH
        refine gIload (pc := 33) hC dX2_multiplied_33 0 rfl ?_
        refine gIload (pc := 35) hC dX2_multiplied_35 6 rfl ?_
        refine gIcmp_ge (pc := 37) hC (tgt := 90) dX2_multiplied_37 (by decide) (fun hc7 => absurd hc7 (nI_ge hi (by omega))) (fun hc7 => ?_)
        refine gIload (pc := 40) hC dX2_multiplied_40 8 rfl ?_
        refine gIload (pc := 42) hC dX2_multiplied_42 0 rfl ?_
        refine gIadd (pc := 44) hC (v := (nI (i + j))) dX2_multiplied_44 (nI_add _ _) ?_
        refine gIloadN (pc := 45) hC dX2_multiplied_45 rfl 5 rfl ?_
        refine gIrem (pc := 46) hC (v := (nI ((i + j) % q))) dX2_multiplied_46 (nI_ne0 hq0 (by omega)) (pk_rem (by omega) hq0 (by omega)) ?_
        refine gIload (pc := 47) hC dX2_multiplied_47 7 rfl ?_
        refine gIcmp_ne (pc := 49) hC (tgt := 80) dX2_multiplied_49 (by decide) (fun hc8 => ?_) (fun hc8 => ?_)
        · skip
          have hmod := Nat.mod_lt (i + j) hq0
          have hne : ¬ (i + j) % q = k := fun e => hc8 (by rw [e])
          refine gIload (pc := 80) hC dX2_multiplied_80 1 rfl ?_
          refine gIstore (pc := 82) hC (lv' := [(6, .int c2), (8, .int (nI j)), (0, .ref (kx L)), (1, .int (nI i0)), (2, .int (nI j0)), (3, .int (nI q)), (4, .int (nI n)), (5, .int (nI k)), (7, .int (nI i))]) dX2_multiplied_82 (by decide) rfl ?_
          refine gIinc (pc := 84) hC (v := (nI (j + 1))) (lv' := [(8, .int (nI (j + 1))), (6, .int c2), (0, .ref (kx L)), (1, .int (nI i0)), (2, .int (nI j0)), (3, .int (nI q)), (4, .int (nI n)), (5, .int (nI k)), (7, .int (nI i))]) dX2_multiplied_84 (q := 1) rfl (nI_1 _) (by decide) rfl ?_
          refine gGoto (pc := 87) hC (tgt := 33) dX2_multiplied_87 (by decide) ?_
          refine gLoc (lv' := [(8, .int (nI (j + 1))), (6, .int c2), (0, .ref (kx L)), (1, .int (nI i0)), (2, .int (nI j0)), (3, .int (nI q)), (4, .int (nI n)), (5, .int (nI k)), (7, .int (nI i))]) [0, 1, 2, 3, 4, 5, 6, 7, 8] rfl ?_
          exact hh (c2) (by rw [hH, pmq_out F G hne])
        · skip
          have hmod := Nat.mod_lt (i + j) hq0
          have heq : (i + j) % q = k := (nI_eq (by omega) (by omega)).mp hc8
          refine gAloadN (pc := 52) hC dX2_multiplied_52 rfl 2 rfl ?_
          refine mGetArr (pc := 53) hC 0 (a := (kn L)) (by decide) ⟨rfl, rfl, rfl⟩ hin2 hl11 dX2_multiplied_53 ?_
          refine gIloadN (pc := 56) hC dX2_multiplied_56 rfl 3 rfl ?_
          refine mRowAld (pc := 57) hC i0 (rfl) (hi0) dX2_multiplied_57 ?_
          refine gIload (pc := 58) hC dX2_multiplied_58 8 rfl ?_
          refine mNumLd (pc := 60) hC (K := i0) (v := (nI (F i).val)) (by omega) i (rfl) (by omega) (hF2 _ (by omega)) dX2_multiplied_60 ?_
          refine gI2l (pc := 61) hC (v := (lN (F i).val)) dX2_multiplied_61 (nI_l (by have := (F i).isLt; omega)) ?_
          refine gAloadN (pc := 62) hC dX2_multiplied_62 rfl 2 rfl ?_
          refine mGetArr (pc := 63) hC 0 (a := (kn L)) (by decide) ⟨rfl, rfl, rfl⟩ hin2 hl11 dX2_multiplied_63 ?_
          refine gIloadN (pc := 66) hC dX2_multiplied_66 rfl 4 rfl ?_
          refine mRowAld (pc := 67) hC j0 (rfl) (hj0) dX2_multiplied_67 ?_
          refine gIload (pc := 68) hC dX2_multiplied_68 0 rfl ?_
          refine mNumLd (pc := 70) hC (K := j0) (v := (nI (G j).val)) (by omega) j (rfl) (by omega) (hG2 _ (by omega)) dX2_multiplied_70 ?_
          refine gI2l (pc := 71) hC (v := (lN (G j).val)) dX2_multiplied_71 (nI_l (by have := (G j).isLt; omega)) ?_
          refine gIload (pc := 72) hC dX2_multiplied_72 1 rfl ?_
          refine gS (pc := 74) (rest := []) hC (c_X2_product l D _ _ _ _ _ (F i) (G j) (pmq n q F G k i j) rfl rfl hH) (va_cwS 3 hC.2.2.2.2.1 gX2_multiplied_X2_product rfl rfl rfl (by decide +kernel) ⟨Nat.le_of_ble_eq_true rfl, Nat.le_of_ble_eq_true rfl⟩) rfl rfl (Nat.le_of_ble_eq_true rfl) dX2_multiplied_74 ⟨Nat.le_of_ble_eq_true rfl, Nat.le_of_ble_eq_true rfl⟩ (fun v w1 hp => ?_)
          obtain ⟨rfl, rfl⟩ := hp
          refine gStk (st' := [.int (nI (F i * G j + pmq n q F G k i j).val)]) (pc' := 77) rfl rfl ?_
          refine gGoto (pc := 77) hC (tgt := 82) dX2_multiplied_77 (by decide) ?_
          refine gIstore (pc := 82) hC (lv' := [(6, .int (nI (F i * G j + pmq n q F G k i j).val)), (8, .int (nI j)), (0, .ref (kx L)), (1, .int (nI i0)), (2, .int (nI j0)), (3, .int (nI q)), (4, .int (nI n)), (5, .int (nI k)), (7, .int (nI i))]) dX2_multiplied_82 (by decide) rfl ?_
          refine gIinc (pc := 84) hC (v := (nI (j + 1))) (lv' := [(8, .int (nI (j + 1))), (6, .int (nI (F i * G j + pmq n q F G k i j).val)), (0, .ref (kx L)), (1, .int (nI i0)), (2, .int (nI j0)), (3, .int (nI q)), (4, .int (nI n)), (5, .int (nI k)), (7, .int (nI i))]) dX2_multiplied_84 (q := 1) rfl (nI_1 _) (by decide) rfl ?_
          refine gGoto (pc := 87) hC (tgt := 33) dX2_multiplied_87 (by decide) ?_
          refine gLoc (lv' := [(8, .int (nI (j + 1))), (6, .int (nI (F i * G j + pmq n q F G k i j).val)), (0, .ref (kx L)), (1, .int (nI i0)), (2, .int (nI j0)), (3, .int (nI q)), (4, .int (nI n)), (5, .int (nI k)), (7, .int (nI i))]) [0, 1, 2, 3, 4, 5, 6, 7, 8] rfl ?_
          exact hh ((nI (F i * G j + pmq n q F G k i j).val)) (by rw [pmq_in F G heq])
