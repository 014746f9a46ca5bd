abbrev rmX2_thrown : Room := { frames := 0, cells := 0, slots := 0, locals := 0 }
set_option maxRecDepth 100000 in
set_option maxHeartbeats 4000000 in
theorem c_X2_thrown (l : Launch) (D : va_G) (L : mLay) (μ : mSt) : gM l yX2_thrown wsX2_thrown rmX2_thrown D (mTy L) (WM L μ) [.ref (kx L)] 0 0 (fun r w => w = WM L μ ∧ r = some (.int (mt μ))) := by
  refine gM.of (cc := cX2_thrown) (maxL := 1) (ret := (some .int)) (own := RX2) (by decide) rfl rfl (Nat.le_of_ble_eq_true rfl) rfl ?_
  intro p e s m args below meth c A Q hC hr hnm hQ
  have hin2 : ∀ w ∈ u_ws RX2 TX2 6, w ∈ wsX2_thrown := by decide +kernel
  have hl28 : Cond.fieldLink RX2 28 "RootrowsModel" "thrown" "I" ∈ wsX2_thrown := by decide +kernel
  refine gAloadN (pc := 0) hC dX2_thrown_0 rfl 0 rfl ?_
  refine mGetInt (pc := 1) hC 5 (v := (mt μ)) (by decide) ⟨rfl, rfl⟩ hin2 hl28 dX2_thrown_1 ?_
  exact gRetI hC hQ hr (Nat.le_of_ble_eq_true rfl) (Nat.le_of_ble_eq_true rfl) dX2_thrown_4 (⟨rfl, rfl⟩)

abbrev rmX2_no : Room := { frames := 0, cells := 0, slots := 0, locals := 0 }
set_option maxRecDepth 100000 in
set_option maxHeartbeats 4000000 in
theorem c_X2_no (l : Launch) (D : va_G) (L : mLay) (μ : mSt) (P : Prop) [Decidable P] (y : Int32) : gM l yX2_no wsX2_no rmX2_no D (mTy L) (WM L μ) [.ref (kx L), .int (bI P), .int y] 0 0 (fun r w => w = WM L (mTh μ (if P then nI 0 else y)) ∧ r = some (.int (bI (¬ P)))) := by
  refine gM.of (cc := cX2_no) (maxL := 3) (ret := (some .boolean)) (own := RX2) (by decide) rfl rfl (Nat.le_of_ble_eq_true rfl) rfl ?_
  intro p e s m args below meth c A Q hC hr hnm hQ
  have hin2 : ∀ w ∈ u_ws RX2 TX2 6, w ∈ wsX2_no := by decide +kernel
  have hl28 : Cond.fieldLink RX2 28 "RootrowsModel" "thrown" "I" ∈ wsX2_no := by decide +kernel
  refine gAloadN (pc := 0) hC dX2_no_0 rfl 0 rfl ?_
  refine gIloadN (pc := 1) hC dX2_no_1 rfl 1 rfl ?_
  refine gIf_eq (pc := 2) hC (tgt := 9) dX2_no_2 (by decide) (fun hc1 => ?_) (fun hc1 => ?_)
  · skip
    have hP := bI_0.mp hc1
    refine gIloadN (pc := 9) hC dX2_no_9 rfl 2 rfl ?_
    refine mPutThrown (pc := 10) hC hin2 hl28 dX2_no_10 ?_
    refine gIloadN (pc := 13) hC dX2_no_13 rfl 1 rfl ?_
    refine gIf_ne (pc := 14) hC (tgt := 21) dX2_no_14 (by decide) (fun hc2 => absurd (bI_0.mpr hP) hc2) (fun hc2 => ?_)
    refine gIconst (pc := 17) hC (v := (nI 1)) dX2_no_17 (by decide +kernel) ?_
    refine gGoto (pc := 18) hC (tgt := 22) dX2_no_18 (by decide) ?_
    exact gRetZ hC hQ hr (rfl) (Nat.le_of_ble_eq_true rfl) (Nat.le_of_ble_eq_true rfl) dX2_no_22 (⟨by rw [if_neg hP], by rw [bI_t hP]⟩)
  · skip
    have hP := bI_n.mp hc1
    refine gIconst (pc := 5) hC (v := (nI 0)) dX2_no_5 (by decide +kernel) ?_
    refine gGoto (pc := 6) hC (tgt := 10) dX2_no_6 (by decide) ?_
    refine mPutThrown (pc := 10) hC hin2 hl28 dX2_no_10 ?_
    refine gIloadN (pc := 13) hC dX2_no_13 rfl 1 rfl ?_
    refine gIf_ne (pc := 14) hC (tgt := 21) dX2_no_14 (by decide) (fun hc3 => ?_) (fun hc3 => absurd hc3 (fun q => bI_0.mp q hP))
    refine gIconst (pc := 21) hC (v := (nI 0)) dX2_no_21 (by decide +kernel) ?_
    exact gRetZ hC hQ hr (rfl) (Nat.le_of_ble_eq_true rfl) (Nat.le_of_ble_eq_true rfl) dX2_no_22 (⟨by rw [if_pos hP], by rw [bI_f (fun q => q hP)]⟩)

abbrev rmX2_in : Room := { frames := 0, cells := 0, slots := 0, locals := 0 }
set_option maxRecDepth 100000 in
set_option maxHeartbeats 4000000 in
theorem c_X2_in (l : Launch) (D : va_G) (tys : List (ClassId × FieldType)) (ws : va_W) (x y z : Int32) : gM l yX2_in wsX2_in rmX2_in D tys ws [.int x, .int y, .int z] 0 0 (fun r w => w = ws ∧ r = some (.int (bI (¬ x < y ∧ ¬ z < x)))) := by
  refine gM.of (cc := cX2_in) (maxL := 3) (ret := (some .boolean)) (own := RX2) (by decide) rfl rfl (Nat.le_of_ble_eq_true rfl) rfl ?_
  intro p e s m args below meth c A Q hC hr hnm hQ
  refine gIloadN (pc := 0) hC dX2_in_0 rfl 0 rfl ?_
  refine gIloadN (pc := 1) hC dX2_in_1 rfl 1 rfl ?_
  refine gIcmp_lt (pc := 2) hC (tgt := 14) dX2_in_2 (by decide) (fun hc1 => ?_) (fun hc1 => ?_)
  · skip
    refine gIconst (pc := 14) hC (v := (nI 0)) dX2_in_14 (by decide +kernel) ?_
    exact gRetZ hC hQ hr (rfl) (Nat.le_of_ble_eq_true rfl) (Nat.le_of_ble_eq_true rfl) dX2_in_15 (⟨rfl, by rw [bI_f (fun q => q.1 hc1)]⟩)
  · skip
    refine gIloadN (pc := 5) hC dX2_in_5 rfl 0 rfl ?_
    refine gIloadN (pc := 6) hC dX2_in_6 rfl 2 rfl ?_
    refine gIcmp_gt (pc := 7) hC (tgt := 14) dX2_in_7 (by decide) (fun hc2 => ?_) (fun hc2 => ?_)
    · skip
      refine gIconst (pc := 14) hC (v := (nI 0)) dX2_in_14 (by decide +kernel) ?_
      exact gRetZ hC hQ hr (rfl) (Nat.le_of_ble_eq_true rfl) (Nat.le_of_ble_eq_true rfl) dX2_in_15 (⟨rfl, by rw [bI_f (fun q => q.2 hc2)]⟩)
    · skip
      refine gIconst (pc := 10) hC (v := (nI 1)) dX2_in_10 (by decide +kernel) ?_
      refine gGoto (pc := 11) hC (tgt := 15) dX2_in_11 (by decide) ?_
      exact gRetZ hC hQ hr (rfl) (Nat.le_of_ble_eq_true rfl) (Nat.le_of_ble_eq_true rfl) dX2_in_15 (⟨rfl, by rw [bI_t ⟨hc1, hc2⟩]⟩)

abbrev rmX2_isLength : Room := { frames := 0, cells := 0, slots := 0, locals := 0 }
set_option maxRecDepth 100000 in
set_option maxHeartbeats 4000000 in
theorem c_X2_isLength (l : Launch) (D : va_G) (tys : List (ClassId × FieldType)) (ws : va_W) (x : Int32) : gM l yX2_isLength wsX2_isLength rmX2_isLength D tys ws [.int x] 0 0 (fun r w => w = ws ∧ r = some (.int (bI (okLI x)))) := by
  refine gM.of (cc := cX2_isLength) (maxL := 1) (ret := (some .boolean)) (own := RX2) (by decide) rfl rfl (Nat.le_of_ble_eq_true rfl) rfl ?_
  intro p e s m args below meth c A Q hC hr hnm hQ
  refine gIloadN (pc := 0) hC dX2_isLength_0 rfl 0 rfl ?_
  refine gIconst (pc := 1) hC (v := (nI 2)) dX2_isLength_1 (by decide +kernel) ?_
  refine gIcmp_eq (pc := 2) hC (tgt := 22) dX2_isLength_2 (by decide) (fun hc1 => ?_) (fun hc1 => ?_)
  · skip
    refine gIconst (pc := 22) hC (v := (nI 1)) dX2_isLength_22 (by decide +kernel) ?_
    refine gGoto (pc := 23) hC (tgt := 27) dX2_isLength_23 (by decide) ?_
    exact gRetZ hC hQ hr (rfl) (Nat.le_of_ble_eq_true rfl) (Nat.le_of_ble_eq_true rfl) dX2_isLength_27 (⟨rfl, by rw [bI_t (Or.inl hc1)]⟩)
  · skip
    refine gIloadN (pc := 5) hC dX2_isLength_5 rfl 0 rfl ?_
    refine gIconst (pc := 6) hC (v := (nI 4)) dX2_isLength_6 (by decide +kernel) ?_
    refine gIcmp_eq (pc := 7) hC (tgt := 22) dX2_isLength_7 (by decide) (fun hc2 => ?_) (fun hc2 => ?_)
    · skip
      refine gIconst (pc := 22) hC (v := (nI 1)) dX2_isLength_22 (by decide +kernel) ?_
      refine gGoto (pc := 23) hC (tgt := 27) dX2_isLength_23 (by decide) ?_
      exact gRetZ hC hQ hr (rfl) (Nat.le_of_ble_eq_true rfl) (Nat.le_of_ble_eq_true rfl) dX2_isLength_27 (⟨rfl, by rw [bI_t (Or.inr (Or.inl hc2))]⟩)
    · skip
      refine gIloadN (pc := 10) hC dX2_isLength_10 rfl 0 rfl ?_
      refine gBipush (pc := 11) hC (v := (nI 8)) dX2_isLength_11 (by decide +kernel) ?_
      refine gIcmp_eq (pc := 13) hC (tgt := 22) dX2_isLength_13 (by decide) (fun hc3 => ?_) (fun hc3 => ?_)
      · skip
        refine gIconst (pc := 22) hC (v := (nI 1)) dX2_isLength_22 (by decide +kernel) ?_
        refine gGoto (pc := 23) hC (tgt := 27) dX2_isLength_23 (by decide) ?_
        exact gRetZ hC hQ hr (rfl) (Nat.le_of_ble_eq_true rfl) (Nat.le_of_ble_eq_true rfl) dX2_isLength_27 (⟨rfl, by rw [bI_t (Or.inr (Or.inr (Or.inl hc3)))]⟩)
      · skip
        refine gIloadN (pc := 16) hC dX2_isLength_16 rfl 0 rfl ?_
        refine gBipush (pc := 17) hC (v := (nI 16)) dX2_isLength_17 (by decide +kernel) ?_
        refine gIcmp_ne (pc := 19) hC (tgt := 26) dX2_isLength_19 (by decide) (fun hc4 => ?_) (fun hc4 => ?_)
        · skip
          refine gIconst (pc := 26) hC (v := (nI 0)) dX2_isLength_26 (by decide +kernel) ?_
          exact gRetZ hC hQ hr (rfl) (Nat.le_of_ble_eq_true rfl) (Nat.le_of_ble_eq_true rfl) dX2_isLength_27 (⟨rfl, by rw [bI_f (fun q => by rcases q with q | q | q | q; exact hc1 q; exact hc2 q; exact hc3 q; exact hc4 q)]⟩)
        · skip
          refine gIconst (pc := 22) hC (v := (nI 1)) dX2_isLength_22 (by decide +kernel) ?_
          refine gGoto (pc := 23) hC (tgt := 27) dX2_isLength_23 (by decide) ?_
          exact gRetZ hC hQ hr (rfl) (Nat.le_of_ble_eq_true rfl) (Nat.le_of_ble_eq_true rfl) dX2_isLength_27 (⟨rfl, by rw [bI_t (Or.inr (Or.inr (Or.inr hc4)))]⟩)

abbrev rmX2_lacks : Room := { frames := 1, cells := 0, slots := 0, locals := 22 }
set_option maxRecDepth 100000 in
set_option maxHeartbeats 4000000 in
theorem c_X2_lacks (l : Launch) (D : va_G) (L : mLay) (μ : mSt) (x : Int32) : gM l yX2_lacks wsX2_lacks rmX2_lacks D (mTy L) (WM L μ) [.ref (kx L), .int x] 0 0 (fun r w => w = WM L (mTh μ (if okR x then nI 0 else nI 1)) ∧ r = some (.int (bI (¬ okR x)))) := by
  refine gM.of (cc := cX2_lacks) (maxL := 2) (ret := (some .boolean)) (own := RX2) (by decide) rfl rfl (Nat.le_of_ble_eq_true rfl) rfl ?_
  intro p e s m args below meth c A Q hC hr hnm hQ
  refine gAloadN (pc := 0) hC dX2_lacks_0 rfl 0 rfl ?_
  refine gIloadN (pc := 1) hC dX2_lacks_1 rfl 1 rfl ?_
  refine gIconst (pc := 2) hC (v := (nI 0)) dX2_lacks_2 (by decide +kernel) ?_
  refine gIconst (pc := 3) hC (v := (nI 3)) dX2_lacks_3 (by decide +kernel) ?_
  refine gS (pc := 4) (rest := [.ref (kx L)]) hC (c_X2_in l D _ _ x (nI 0) (nI 3)) (va_cwS 3 hC.2.2.2.2.1 gX2_lacks_X2_in rfl rfl rfl (by decide +kernel) ⟨Nat.le_of_ble_eq_true rfl, Nat.le_of_ble_eq_true rfl⟩) rfl rfl (Nat.le_of_ble_eq_true rfl) dX2_lacks_4 ⟨Nat.le_of_ble_eq_true rfl, Nat.le_of_ble_eq_true rfl⟩ (fun v w1 hp => ?_)
  obtain ⟨rfl, rfl⟩ := hp
  rw [bI_c m_row]
  refine gStk (st' := [.int (bI (okR x)), .ref (kx L)]) (pc' := 7) rfl rfl ?_
  refine gIconst (pc := 7) hC (v := (nI 1)) dX2_lacks_7 (by decide +kernel) ?_
  refine gV (pc := 8) (rest := []) (ci := 2) (q0 := 0) hC (c_X2_no l D L μ (okR x) (nI 1)) rfl rfl (cwV 2 hC.2.2.2.2.1 gX2_lacks_X2_no rfl rfl rfl (by decide +kernel) ⟨Nat.le_of_ble_eq_true rfl, Nat.le_of_ble_eq_true rfl⟩) rfl rfl (Nat.le_of_ble_eq_true rfl) dX2_lacks_8 ⟨Nat.le_of_ble_eq_true rfl, Nat.le_of_ble_eq_true rfl⟩ (fun v w1 hp => ?_)
  obtain ⟨rfl, rfl⟩ := hp
  refine gStk (st' := [.int (bI (¬ okR x))]) (pc' := 11) rfl rfl ?_
  exact gRetZ hC hQ hr (bI_nar _ _ rfl) (Nat.le_of_ble_eq_true rfl) (Nat.le_of_ble_eq_true rfl) dX2_lacks_11 (⟨rfl, rfl⟩)

abbrev rmX2_lacksTwo : Room := { frames := 1, cells := 0, slots := 0, locals := 22 }
set_option maxRecDepth 100000 in
set_option maxHeartbeats 4000000 in
theorem c_X2_lacksTwo (l : Launch) (D : va_G) (L : mLay) (μ : mSt) (x y : Int32) : gM l yX2_lacksTwo wsX2_lacksTwo rmX2_lacksTwo D (mTy L) (WM L μ) [.ref (kx L), .int x, .int y] 0 0 (fun r w => w = WM L (mTh μ (if okR x ∧ okR y then nI 0 else nI 1)) ∧ r = some (.int (bI (¬ (okR x ∧ okR y))))) := by
  refine gM.of (cc := cX2_lacksTwo) (maxL := 3) (ret := (some .boolean)) (own := RX2) (by decide) rfl rfl (Nat.le_of_ble_eq_true rfl) rfl ?_
  intro p e s m args below meth c A Q hC hr hnm hQ
  refine gAloadN (pc := 0) hC dX2_lacksTwo_0 rfl 0 rfl ?_
  refine gIloadN (pc := 1) hC dX2_lacksTwo_1 rfl 1 rfl ?_
  refine gIconst (pc := 2) hC (v := (nI 0)) dX2_lacksTwo_2 (by decide +kernel) ?_
  refine gIconst (pc := 3) hC (v := (nI 3)) dX2_lacksTwo_3 (by decide +kernel) ?_
  refine gS (pc := 4) (rest := [.ref (kx L)]) hC (c_X2_in l D _ _ x (nI 0) (nI 3)) (va_cwS 3 hC.2.2.2.2.1 gX2_lacksTwo_X2_in rfl rfl rfl (by decide +kernel) ⟨Nat.le_of_ble_eq_true rfl, Nat.le_of_ble_eq_true rfl⟩) rfl rfl (Nat.le_of_ble_eq_true rfl) dX2_lacksTwo_4 ⟨Nat.le_of_ble_eq_true rfl, Nat.le_of_ble_eq_true rfl⟩ (fun v w1 hp => ?_)
  obtain ⟨rfl, rfl⟩ := hp
  rw [bI_c m_row]
  refine gStk (st' := [.int (bI (okR x)), .ref (kx L)]) (pc' := 7) rfl rfl ?_
  refine gIf_eq (pc := 7) hC (tgt := 23) dX2_lacksTwo_7 (by decide) (fun hc1 => ?_) (fun hc1 => ?_)
  · skip
    refine gIconst (pc := 23) hC (v := (nI 0)) dX2_lacksTwo_23 (by decide +kernel) ?_
    refine gIconst (pc := 24) hC (v := (nI 1)) dX2_lacksTwo_24 (by decide +kernel) ?_
    refine gStk (st' := [.int (nI 1), .int (bI (okR x ∧ okR y)), .ref (kx L)]) (pc' := 25) (by rw [bI_f (fun q => bI_0.mp hc1 q.1)]) rfl ?_
    refine gV (pc := 25) (rest := []) (ci := 2) (q0 := 0) hC (c_X2_no l D L μ (okR x ∧ okR y) (nI 1)) rfl rfl (cwV 2 hC.2.2.2.2.1 gX2_lacksTwo_X2_no rfl rfl rfl (by decide +kernel) ⟨Nat.le_of_ble_eq_true rfl, Nat.le_of_ble_eq_true rfl⟩) rfl rfl (Nat.le_of_ble_eq_true rfl) dX2_lacksTwo_25 ⟨Nat.le_of_ble_eq_true rfl, Nat.le_of_ble_eq_true rfl⟩ (fun v w1 hp => ?_)
    obtain ⟨rfl, rfl⟩ := hp
    refine gStk (st' := [.int (bI (¬ (okR x ∧ okR y)))]) (pc' := 28) rfl rfl ?_
    exact gRetZ hC hQ hr (bI_nar _ _ rfl) (Nat.le_of_ble_eq_true rfl) (Nat.le_of_ble_eq_true rfl) dX2_lacksTwo_28 (⟨rfl, rfl⟩)
  · skip
    refine gIloadN (pc := 10) hC dX2_lacksTwo_10 rfl 2 rfl ?_
    refine gIconst (pc := 11) hC (v := (nI 0)) dX2_lacksTwo_11 (by decide +kernel) ?_
    refine gIconst (pc := 12) hC (v := (nI 3)) dX2_lacksTwo_12 (by decide +kernel) ?_
    refine gS (pc := 13) (rest := [.ref (kx L)]) hC (c_X2_in l D _ _ y (nI 0) (nI 3)) (va_cwS 3 hC.2.2.2.2.1 gX2_lacksTwo_X2_in rfl rfl rfl (by decide +kernel) ⟨Nat.le_of_ble_eq_true rfl, Nat.le_of_ble_eq_true rfl⟩) rfl rfl (Nat.le_of_ble_eq_true rfl) dX2_lacksTwo_13 ⟨Nat.le_of_ble_eq_true rfl, Nat.le_of_ble_eq_true rfl⟩ (fun v w1 hp => ?_)
    obtain ⟨rfl, rfl⟩ := hp
    rw [bI_c m_row]
    refine gStk (st' := [.int (bI (okR y)), .ref (kx L)]) (pc' := 16) rfl rfl ?_
    refine gIf_eq (pc := 16) hC (tgt := 23) dX2_lacksTwo_16 (by decide) (fun hc2 => ?_) (fun hc2 => ?_)
    · skip
      refine gIconst (pc := 23) hC (v := (nI 0)) dX2_lacksTwo_23 (by decide +kernel) ?_
      refine gIconst (pc := 24) hC (v := (nI 1)) dX2_lacksTwo_24 (by decide +kernel) ?_
      refine gStk (st' := [.int (nI 1), .int (bI (okR x ∧ okR y)), .ref (kx L)]) (pc' := 25) (by rw [bI_f (fun q => bI_0.mp hc2 q.2)]) rfl ?_
      refine gV (pc := 25) (rest := []) (ci := 2) (q0 := 0) hC (c_X2_no l D L μ (okR x ∧ okR y) (nI 1)) rfl rfl (cwV 2 hC.2.2.2.2.1 gX2_lacksTwo_X2_no rfl rfl rfl (by decide +kernel) ⟨Nat.le_of_ble_eq_true rfl, Nat.le_of_ble_eq_true rfl⟩) rfl rfl (Nat.le_of_ble_eq_true rfl) dX2_lacksTwo_25 ⟨Nat.le_of_ble_eq_true rfl, Nat.le_of_ble_eq_true rfl⟩ (fun v w1 hp => ?_)
      obtain ⟨rfl, rfl⟩ := hp
      refine gStk (st' := [.int (bI (¬ (okR x ∧ okR y)))]) (pc' := 28) rfl rfl ?_
      exact gRetZ hC hQ hr (bI_nar _ _ rfl) (Nat.le_of_ble_eq_true rfl) (Nat.le_of_ble_eq_true rfl) dX2_lacksTwo_28 (⟨rfl, rfl⟩)
    · skip
      refine gIconst (pc := 19) hC (v := (nI 1)) dX2_lacksTwo_19 (by decide +kernel) ?_
      refine gGoto (pc := 20) hC (tgt := 24) dX2_lacksTwo_20 (by decide) ?_
      refine gIconst (pc := 24) hC (v := (nI 1)) dX2_lacksTwo_24 (by decide +kernel) ?_
      refine gStk (st' := [.int (nI 1), .int (bI (okR x ∧ okR y)), .ref (kx L)]) (pc' := 25) (by rw [bI_t ⟨bI_n.mp hc1, bI_n.mp hc2⟩]) rfl ?_
      refine gV (pc := 25) (rest := []) (ci := 2) (q0 := 0) hC (c_X2_no l D L μ (okR x ∧ okR y) (nI 1)) rfl rfl (cwV 2 hC.2.2.2.2.1 gX2_lacksTwo_X2_no rfl rfl rfl (by decide +kernel) ⟨Nat.le_of_ble_eq_true rfl, Nat.le_of_ble_eq_true rfl⟩) rfl rfl (Nat.le_of_ble_eq_true rfl) dX2_lacksTwo_25 ⟨Nat.le_of_ble_eq_true rfl, Nat.le_of_ble_eq_true rfl⟩ (fun v w1 hp => ?_)
      obtain ⟨rfl, rfl⟩ := hp
      refine gStk (st' := [.int (bI (¬ (okR x ∧ okR y)))]) (pc' := 28) rfl rfl ?_
      exact gRetZ hC hQ hr (bI_nar _ _ rfl) (Nat.le_of_ble_eq_true rfl) (Nat.le_of_ble_eq_true rfl) dX2_lacksTwo_28 (⟨rfl, rfl⟩)

abbrev rmX2_lacksPlace : Room := { frames := 1, cells := 0, slots := 0, locals := 22 }
set_option maxRecDepth 100000 in
set_option maxHeartbeats 4000000 in
theorem c_X2_lacksPlace (l : Launch) (D : va_G) (L : mLay) (μ : mSt) (Δ : dSt) (x y : Int32) (hR : mRel μ Δ) : gM l yX2_lacksPlace wsX2_lacksPlace rmX2_lacksPlace D (mTy L) (WM L μ) [.ref (kx L), .int x, .int y] 0 0 (fun r w => w = WM L (mTh μ (if (okR x ∧ okP y (Δ.2.1 (rI x))) then nI 0 else nI 1)) ∧ r = some (.int (bI (¬ (okR x ∧ okP y (Δ.2.1 (rI x))))))) := by
  refine gM.of (cc := cX2_lacksPlace) (maxL := 3) (ret := (some .boolean)) (own := RX2) (by decide) rfl rfl (Nat.le_of_ble_eq_true rfl) rfl ?_
  intro p e s m args below meth c A Q hC hr hnm hQ
  have hin2 : ∀ w ∈ u_ws RX2 TX2 6, w ∈ wsX2_lacksPlace := by decide +kernel
  have hl14 : Cond.fieldLink RX2 14 "RootrowsModel" "lengths" "[I" ∈ wsX2_lacksPlace := by decide +kernel
  refine gAloadN (pc := 0) hC dX2_lacksPlace_0 rfl 0 rfl ?_
  refine gIloadN (pc := 1) hC dX2_lacksPlace_1 rfl 1 rfl ?_
  refine gIconst (pc := 2) hC (v := (nI 0)) dX2_lacksPlace_2 (by decide +kernel) ?_
  refine gIconst (pc := 3) hC (v := (nI 3)) dX2_lacksPlace_3 (by decide +kernel) ?_
  refine gS (pc := 4) (rest := [.ref (kx L)]) hC (c_X2_in l D _ _ x (nI 0) (nI 3)) (va_cwS 3 hC.2.2.2.2.1 gX2_lacksPlace_X2_in rfl rfl rfl (by decide +kernel) ⟨Nat.le_of_ble_eq_true rfl, Nat.le_of_ble_eq_true rfl⟩) rfl rfl (Nat.le_of_ble_eq_true rfl) dX2_lacksPlace_4 ⟨Nat.le_of_ble_eq_true rfl, Nat.le_of_ble_eq_true rfl⟩ (fun v w1 hp => ?_)
  obtain ⟨rfl, rfl⟩ := hp
  rw [bI_c m_row]
  refine gStk (st' := [.int (bI (okR x)), .ref (kx L)]) (pc' := 7) rfl rfl ?_
  refine gIf_eq (pc := 7) hC (tgt := 30) dX2_lacksPlace_7 (by decide) (fun hc1 => ?_) (fun hc1 => ?_)
  · skip
    refine gIconst (pc := 30) hC (v := (nI 0)) dX2_lacksPlace_30 (by decide +kernel) ?_
    refine gIconst (pc := 31) hC (v := (nI 1)) dX2_lacksPlace_31 (by decide +kernel) ?_
    refine gStk (st' := [.int (nI 1), .int (bI (okR x ∧ okP y (Δ.2.1 (rI x)))), .ref (kx L)]) (pc' := 32) (by rw [bI_f (fun q => bI_0.mp hc1 q.1)]) rfl ?_
    refine gV (pc := 32) (rest := []) (ci := 2) (q0 := 0) hC (c_X2_no l D L μ (okR x ∧ okP y (Δ.2.1 (rI x))) (nI 1)) rfl rfl (cwV 2 hC.2.2.2.2.1 gX2_lacksPlace_X2_no rfl rfl rfl (by decide +kernel) ⟨Nat.le_of_ble_eq_true rfl, Nat.le_of_ble_eq_true rfl⟩) rfl rfl (Nat.le_of_ble_eq_true rfl) dX2_lacksPlace_32 ⟨Nat.le_of_ble_eq_true rfl, Nat.le_of_ble_eq_true rfl⟩ (fun v w1 hp => ?_)
    obtain ⟨rfl, rfl⟩ := hp
    refine gStk (st' := [.int (bI (¬ (okR x ∧ okP y (Δ.2.1 (rI x)))))]) (pc' := 35) rfl rfl ?_
    exact gRetZ hC hQ hr (bI_nar _ _ rfl) (Nat.le_of_ble_eq_true rfl) (Nat.le_of_ble_eq_true rfl) dX2_lacksPlace_35 (⟨rfl, rfl⟩)
  · skip
    have hr0 := bI_n.mp hc1
    obtain ⟨hi, ei⟩ := hr0.get
    obtain ⟨hl_, hle, -, -⟩ := hR.2.2 _ hi
    have hN := hl_.N.le
    have hp0 := hl_.N.pos
    refine gIloadN (pc := 10) hC dX2_lacksPlace_10 rfl 2 rfl ?_
    refine gIconst (pc := 11) hC (v := (nI 0)) dX2_lacksPlace_11 (by decide +kernel) ?_
    refine gAloadN (pc := 12) hC dX2_lacksPlace_12 rfl 0 rfl ?_
    refine mGetArr (pc := 13) hC 1 (a := (kl L)) (by decide) ⟨rfl, rfl, rfl⟩ hin2 hl14 dX2_lacksPlace_13 ?_
    refine gIloadN (pc := 16) hC dX2_lacksPlace_16 rfl 1 rfl ?_
    refine mLenLd (pc := 17) hC (v := (nI (Δ.2.1 (rI x)))) (rI x) (ei) (hi) (hle) dX2_lacksPlace_17 ?_
    refine gIconst (pc := 18) hC (v := (nI 1)) dX2_lacksPlace_18 (by decide +kernel) ?_
    refine gIsub (pc := 19) hC dX2_lacksPlace_19 rfl ?_
    refine gS (pc := 20) (rest := [.ref (kx L)]) hC (c_X2_in l D _ _ y (nI 0) _) (va_cwS 3 hC.2.2.2.2.1 gX2_lacksPlace_X2_in rfl rfl rfl (by decide +kernel) ⟨Nat.le_of_ble_eq_true rfl, Nat.le_of_ble_eq_true rfl⟩) rfl rfl (Nat.le_of_ble_eq_true rfl) dX2_lacksPlace_20 ⟨Nat.le_of_ble_eq_true rfl, Nat.le_of_ble_eq_true rfl⟩ (fun v w1 hp => ?_)
    obtain ⟨rfl, rfl⟩ := hp
    rw [bI_c (m_place hp0 (by omega))]
    refine gStk (st' := [.int (bI (okP y (Δ.2.1 (rI x)))), .ref (kx L)]) (pc' := 23) rfl rfl ?_
    refine gIf_eq (pc := 23) hC (tgt := 30) dX2_lacksPlace_23 (by decide) (fun hc2 => ?_) (fun hc2 => ?_)
    · skip
      refine gIconst (pc := 30) hC (v := (nI 0)) dX2_lacksPlace_30 (by decide +kernel) ?_
      refine gIconst (pc := 31) hC (v := (nI 1)) dX2_lacksPlace_31 (by decide +kernel) ?_
      refine gStk (st' := [.int (nI 1), .int (bI (okR x ∧ okP y (Δ.2.1 (rI x)))), .ref (kx L)]) (pc' := 32) (by rw [bI_f (fun q => bI_0.mp hc2 q.2)]) rfl ?_
      refine gV (pc := 32) (rest := []) (ci := 2) (q0 := 0) hC (c_X2_no l D L μ (okR x ∧ okP y (Δ.2.1 (rI x))) (nI 1)) rfl rfl (cwV 2 hC.2.2.2.2.1 gX2_lacksPlace_X2_no rfl rfl rfl (by decide +kernel) ⟨Nat.le_of_ble_eq_true rfl, Nat.le_of_ble_eq_true rfl⟩) rfl rfl (Nat.le_of_ble_eq_true rfl) dX2_lacksPlace_32 ⟨Nat.le_of_ble_eq_true rfl, Nat.le_of_ble_eq_true rfl⟩ (fun v w1 hp => ?_)
      obtain ⟨rfl, rfl⟩ := hp
      refine gStk (st' := [.int (bI (¬ (okR x ∧ okP y (Δ.2.1 (rI x)))))]) (pc' := 35) rfl rfl ?_
      exact gRetZ hC hQ hr (bI_nar _ _ rfl) (Nat.le_of_ble_eq_true rfl) (Nat.le_of_ble_eq_true rfl) dX2_lacksPlace_35 (⟨rfl, rfl⟩)
    · skip
      refine gIconst (pc := 26) hC (v := (nI 1)) dX2_lacksPlace_26 (by decide +kernel) ?_
      refine gGoto (pc := 27) hC (tgt := 31) dX2_lacksPlace_27 (by decide) ?_
      refine gIconst (pc := 31) hC (v := (nI 1)) dX2_lacksPlace_31 (by decide +kernel) ?_
      refine gStk (st' := [.int (nI 1), .int (bI (okR x ∧ okP y (Δ.2.1 (rI x)))), .ref (kx L)]) (pc' := 32) (by rw [bI_t ⟨hr0, bI_n.mp hc2⟩]) rfl ?_
      refine gV (pc := 32) (rest := []) (ci := 2) (q0 := 0) hC (c_X2_no l D L μ (okR x ∧ okP y (Δ.2.1 (rI x))) (nI 1)) rfl rfl (cwV 2 hC.2.2.2.2.1 gX2_lacksPlace_X2_no rfl rfl rfl (by decide +kernel) ⟨Nat.le_of_ble_eq_true rfl, Nat.le_of_ble_eq_true rfl⟩) rfl rfl (Nat.le_of_ble_eq_true rfl) dX2_lacksPlace_32 ⟨Nat.le_of_ble_eq_true rfl, Nat.le_of_ble_eq_true rfl⟩ (fun v w1 hp => ?_)
      obtain ⟨rfl, rfl⟩ := hp
      refine gStk (st' := [.int (bI (¬ (okR x ∧ okP y (Δ.2.1 (rI x)))))]) (pc' := 35) rfl rfl ?_
      exact gRetZ hC hQ hr (bI_nar _ _ rfl) (Nat.le_of_ble_eq_true rfl) (Nat.le_of_ble_eq_true rfl) dX2_lacksPlace_35 (⟨rfl, rfl⟩)

abbrev rmX2_doubled : Room := { frames := 0, cells := 0, slots := 0, locals := 0 }
set_option maxRecDepth 100000 in
set_option maxHeartbeats 4000000 in
theorem c_X2_doubled (l : Launch) (D : va_G) (tys : List (ClassId × FieldType)) (ws : va_W) (x : Int32) (u : Rg) (t : Nat) (hx : x = nI u.val) (ht : t < 32) : gM l yX2_doubled wsX2_doubled rmX2_doubled D tys ws [.int x, .int (nI t)] 0 0 (fun r w => w = ws ∧ r = some (.int (nI (u * pw t).val))) := by
  refine gM.of (cc := cX2_doubled) (maxL := 2) (ret := (some .int)) (own := RX2) (by decide) rfl rfl (Nat.le_of_ble_eq_true rfl) rfl ?_
  intro p e s m args below meth c A Q hC hr hnm hQ
  refine gIloadN (pc := 0) hC dX2_doubled_0 rfl 0 rfl ?_
  refine gI2l (pc := 1) hC dX2_doubled_1 rfl ?_
  refine gIloadN (pc := 2) hC dX2_doubled_2 rfl 1 rfl ?_
  refine gLshl (pc := 3) hC dX2_doubled_3 rfl ?_
  refine gLdc2 (pc := 4) hC (v := 65537) dX2_doubled_4 (by decide +kernel) ?_
  refine gLrem (pc := 7) hC dX2_doubled_7 (by decide) rfl ?_
  refine gL2i (pc := 8) hC (v := (nI (u * pw t).val)) dX2_doubled_8 (by subst hx; exact j_dbl u ht) ?_
  exact gRetI hC hQ hr (Nat.le_of_ble_eq_true rfl) (Nat.le_of_ble_eq_true rfl) dX2_doubled_9 (⟨rfl, rfl⟩)

abbrev rmX2_product : Room := { frames := 0, cells := 0, slots := 0, locals := 0 }
set_option maxRecDepth 100000 in
set_option maxHeartbeats 4000000 in
theorem c_X2_product (l : Launch) (D : va_G) (tys : List (ClassId × FieldType)) (ws : va_W) (x y : Int64) (z : Int32) (a b d : Rg) (hx : x = lN a.val) (hy : y = lN b.val) (hz : z = nI d.val) : gM l yX2_product wsX2_product rmX2_product D tys ws [.long x, .long y, .int z] 0 0 (fun r w => w = ws ∧ r = some (.int (nI (a * b + d).val))) := by
  refine gM.of (cc := cX2_product) (maxL := 5) (ret := (some .int)) (own := RX2) (by decide) rfl rfl (Nat.le_of_ble_eq_true rfl) rfl ?_
  intro p e s m args below meth c A Q hC hr hnm hQ
  refine gLloadN (pc := 0) hC dX2_product_0 rfl 0 rfl ?_
  refine gLloadN (pc := 1) hC dX2_product_1 rfl 1 rfl ?_
  refine gLmul (pc := 2) hC (v := (lN (a.val * b.val))) dX2_product_2 (by subst hx; subst hy; rw [lN_mul]) ?_
  refine gIload (pc := 3) hC dX2_product_3 2 rfl ?_
  refine gI2l (pc := 5) hC dX2_product_5 rfl ?_
  refine gLadd (pc := 6) hC dX2_product_6 rfl ?_
  refine gLdc2 (pc := 7) hC (v := 65537) dX2_product_7 (by decide +kernel) ?_
  refine gLrem (pc := 10) hC dX2_product_10 (by decide) rfl ?_
  refine gL2i (pc := 11) hC (v := (nI (a * b + d).val)) dX2_product_11 (by subst hz; exact j_prd a b d) ?_
  exact gRetI hC hQ hr (Nat.le_of_ble_eq_true rfl) (Nat.le_of_ble_eq_true rfl) dX2_product_12 (⟨rfl, rfl⟩)

theorem m_inv {i : Nat} (hi : i < 16) : ¬ nI (65535 / 2 ^ i) ≤ 0 ∧ nI (65535 / 2 ^ i) - nI (65535 / 2 ^ i) / nI 2 * nI 2 = nI 1 ∧ nI (65535 / 2 ^ i) / nI 2 = nI (65535 / 2 ^ (i + 1)) := by
  rcases (show i = 0 ∨ i = 1 ∨ i = 2 ∨ i = 3 ∨ i = 4 ∨ i = 5 ∨ i = 6 ∨ i = 7 ∨ i = 8 ∨ i = 9 ∨ i = 10 ∨ i = 11 ∨ i = 12 ∨ i = 13 ∨ i = 14 ∨ i = 15 by omega) with rfl | rfl | rfl | rfl | rfl | rfl | rfl | rfl | rfl | rfl | rfl | rfl | rfl | rfl | rfl | rfl <;> decide +kernel

abbrev rmX2_inverse : Room := { frames := 1, cells := 0, slots := 0, locals := 24 }
set_option maxRecDepth 100000 in
set_option maxHeartbeats 4000000 in
theorem c_X2_inverse (l : Launch) (D : va_G) (tys : List (ClassId × FieldType)) (ws : va_W) (x : Int32) (u : Rg) (hx : x = nI u.val) : gM l yX2_inverse wsX2_inverse rmX2_inverse D tys ws [.int x] 0 0 (fun r w => w = ws ∧ r = some (.int (nI (iv u).val))) := by
  refine gM.of (cc := cX2_inverse) (maxL := 4) (ret := (some .int)) (own := RX2) (by decide) rfl rfl (Nat.le_of_ble_eq_true rfl) rfl ?_
  intro p e s m args below meth c A Q hC hr hnm hQ
  refine gIconst (pc := 0) hC (v := (nI 1)) dX2_inverse_0 (by decide +kernel) ?_
  refine gIstoreN (pc := 1) hC (lv' := [(1, .int (nI 1)), (0, .int x)]) dX2_inverse_1 rfl (by decide) rfl ?_
  refine gIloadN (pc := 2) hC dX2_inverse_2 rfl 1 rfl ?_
  refine gIstoreN (pc := 3) hC (lv' := [(2, .int x), (1, .int (nI 1)), (0, .int x)]) dX2_inverse_3 rfl (by decide) rfl ?_
  refine gLdc (pc := 4) hC (v := 65535) dX2_inverse_4 (by decide +kernel) ?_
  refine gIstoreN (pc := 6) hC (lv' := [(3, .int (65535)), (2, .int x), (1, .int (nI 1)), (0, .int x)]) dX2_inverse_6 rfl (by decide) rfl ?_
  refine gLoc (lv' := [(3, .int (nI (65535 / 2 ^ 0))), (1, .int (nI 1)), (2, .int x), (0, .int x)]) [0, 2, 1, 3] rfl ?_
  refine loopUp (S := (Int32 × Int32)) (fun i ζ => gG p l e rmX2_inverse s m args below meth c D A 4 0 0 Q ws 7 [(3, .int (nI (65535 / 2 ^ i))), (1, .int (ζ.1)), (2, .int (ζ.2)), (0, .int x)] []) (fun i ζ => ζ.1 = nI (ivs u i).1.val ∧ ζ.2 = nI (ivs u i).2.val) 16 ?_ ?_ 0 ((nI 1), x) (by omega) (⟨rfl, hx⟩)
  · intro ζ hI
    obtain ⟨c1, c2⟩ := ζ
    try dsimp only at hI ⊢
    refine gIloadN (pc := 7) hC dX2_inverse_7 rfl 0 rfl ?_
    refine gIf_le (pc := 8) hC (tgt := 47) dX2_inverse_8 (by decide) (fun hc1 => ?_) (fun hc1 => absurd (by decide) hc1)
    refine gIloadN (pc := 47) hC dX2_inverse_47 rfl 1 rfl ?_
    exact gRetI hC hQ hr (Nat.le_of_ble_eq_true rfl) (Nat.le_of_ble_eq_true rfl) dX2_inverse_48 (⟨rfl, by rw [hI.1]; rfl⟩)
  · intro i ζ hi hI ih
    obtain ⟨c1, c2⟩ := ζ
    try dsimp only at hI ih ⊢
    obtain ⟨e1, e2, e3⟩ := m_inv hi
    refine gIloadN (pc := 7) hC dX2_inverse_7 rfl 0 rfl ?_
    refine gIf_le (pc := 8) hC (tgt := 47) dX2_inverse_8 (by decide) (fun hc2 => absurd hc2 (e1)) (fun hc2 => ?_)
    refine gIloadN (pc := 11) hC dX2_inverse_11 rfl 0 rfl ?_
    refine gIconst (pc := 12) hC (v := (nI 2)) dX2_inverse_12 (by decide +kernel) ?_
    refine gIrem (pc := 13) hC (v := (nI 1)) dX2_inverse_13 (by decide) (e2) ?_
    refine gIconst (pc := 14) hC (v := (nI 1)) dX2_inverse_14 (by decide +kernel) ?_
    refine gIcmp_ne (pc := 15) hC (tgt := 29) dX2_inverse_15 (by decide) (fun hc3 => absurd (rfl) hc3) (fun hc3 => ?_)
    refine gIloadN (pc := 18) hC dX2_inverse_18 rfl 1 rfl ?_
    refine gI2l (pc := 19) hC (v := (lN (ivs u i).1.val)) dX2_inverse_19 (by rw [hI.1]; exact nI_l (by have := (ivs u i).1.isLt; omega)) ?_
    refine gIloadN (pc := 20) hC dX2_inverse_20 rfl 2 rfl ?_
    refine gI2l (pc := 21) hC (v := (lN (ivs u i).2.val)) dX2_inverse_21 (by rw [hI.2]; exact nI_l (by have := (ivs u i).2.isLt; omega)) ?_
    refine gIconst (pc := 22) hC (v := (nI 0)) dX2_inverse_22 (by decide +kernel) ?_
    refine gS (pc := 23) (rest := []) hC (c_X2_product l D _ _ _ _ _ (ivs u i).1 (ivs u i).2 0 rfl rfl rfl) (va_cwS 3 hC.2.2.2.2.1 gX2_inverse_X2_product rfl rfl rfl (by decide +kernel) ⟨Nat.le_of_ble_eq_true rfl, Nat.le_of_ble_eq_true rfl⟩) rfl rfl (Nat.le_of_ble_eq_true rfl) dX2_inverse_23 ⟨Nat.le_of_ble_eq_true rfl, Nat.le_of_ble_eq_true rfl⟩ (fun v w1 hp => ?_)
    obtain ⟨rfl, rfl⟩ := hp
    refine gStk (st' := [.int (nI ((ivs u i).1 * (ivs u i).2 + 0).val)]) (pc' := 26) rfl rfl ?_
    rw [fr_a0]
    refine gGoto (pc := 26) hC (tgt := 30) dX2_inverse_26 (by decide) ?_
    refine gIstoreN (pc := 30) hC (lv' := [(1, .int (nI ((ivs u i).1 * (ivs u i).2).val)), (3, .int (nI (65535 / 2 ^ i))), (2, .int c2), (0, .int x)]) dX2_inverse_30 rfl (by decide) rfl ?_
    refine gIloadN (pc := 31) hC dX2_inverse_31 rfl 2 rfl ?_
    refine gI2l (pc := 32) hC (v := (lN (ivs u i).2.val)) dX2_inverse_32 (by rw [hI.2]; exact nI_l (by have := (ivs u i).2.isLt; omega)) ?_
    refine gIloadN (pc := 33) hC dX2_inverse_33 rfl 2 rfl ?_
    refine gI2l (pc := 34) hC (v := (lN (ivs u i).2.val)) dX2_inverse_34 (by rw [hI.2]; exact nI_l (by have := (ivs u i).2.isLt; omega)) ?_
    refine gIconst (pc := 35) hC (v := (nI 0)) dX2_inverse_35 (by decide +kernel) ?_
    refine gS (pc := 36) (rest := []) hC (c_X2_product l D _ _ _ _ _ (ivs u i).2 (ivs u i).2 0 rfl rfl rfl) (va_cwS 3 hC.2.2.2.2.1 gX2_inverse_X2_product rfl rfl rfl (by decide +kernel) ⟨Nat.le_of_ble_eq_true rfl, Nat.le_of_ble_eq_true rfl⟩) rfl rfl (Nat.le_of_ble_eq_true rfl) dX2_inverse_36 ⟨Nat.le_of_ble_eq_true rfl, Nat.le_of_ble_eq_true rfl⟩ (fun v w1 hp => ?_)
    obtain ⟨rfl, rfl⟩ := hp
    refine gStk (st' := [.int (nI ((ivs u i).2 * (ivs u i).2 + 0).val)]) (pc' := 39) rfl rfl ?_
    rw [fr_a0]
    refine gIstoreN (pc := 39) hC (lv' := [(2, .int (nI ((ivs u i).2 * (ivs u i).2).val)), (1, .int (nI ((ivs u i).1 * (ivs u i).2).val)), (3, .int (nI (65535 / 2 ^ i))), (0, .int x)]) dX2_inverse_39 rfl (by decide) rfl ?_
    refine gIloadN (pc := 40) hC dX2_inverse_40 rfl 2 rfl ?_
    refine gIconst (pc := 41) hC (v := (nI 2)) dX2_inverse_41 (by decide +kernel) ?_
    refine gIdiv (pc := 42) hC (v := (nI (65535 / 2 ^ (i + 1)))) dX2_inverse_42 (by decide) (e3) ?_
    refine gIstoreN (pc := 43) hC (lv' := [(3, .int (nI (65535 / 2 ^ (i + 1)))), (2, .int (nI ((ivs u i).2 * (ivs u i).2).val)), (1, .int (nI ((ivs u i).1 * (ivs u i).2).val)), (0, .int x)]) dX2_inverse_43 rfl (by decide) rfl ?_
    refine gGoto (pc := 44) hC (tgt := 7) dX2_inverse_44 (by decide) ?_
    refine gLoc (lv' := [(3, .int (nI (65535 / 2 ^ (i + 1)))), (1, .int (nI ((ivs u i).1 * (ivs u i).2).val)), (2, .int (nI ((ivs u i).2 * (ivs u i).2).val)), (0, .int x)]) [0, 2, 1, 3] rfl ?_
    exact ih ((nI ((ivs u i).1 * (ivs u i).2).val), (nI ((ivs u i).2 * (ivs u i).2).val)) (⟨rfl, rfl⟩)

theorem m_l0 {n : Nat} (hn : okN n) : ¬ lN n = 0 := by rcases hn with rfl | rfl | rfl | rfl | rfl <;> decide

abbrev rmX2_left : Room := { frames := 0, cells := 0, slots := 0, locals := 0 }
set_option maxRecDepth 100000 in
set_option maxHeartbeats 4000000 in
theorem c_X2_left (l : Launch) (D : va_G) (tys : List (ClassId × FieldType)) (ws : va_W) (v : Int64) (n : Nat) (z : Int) (hn : okN n) (hv : v.toInt = z) : gM l yX2_left wsX2_left rmX2_left D tys ws [.long v, .int (nI n)] 0 0 (fun r w => w = ws ∧ r = some (.int (nI (ix n z)))) := by
  refine gM.of (cc := cX2_left) (maxL := 4) (ret := (some .int)) (own := RX2) (by decide) rfl rfl (Nat.le_of_ble_eq_true rfl) rfl ?_
  intro p e s m args below meth c A Q hC hr hnm hQ
  obtain ⟨q, eq, hq⟩ := m_left hn hv
  refine gLloadN (pc := 0) hC dX2_left_0 rfl 0 rfl ?_
  refine gIloadN (pc := 1) hC dX2_left_1 rfl 1 rfl ?_
  refine gI2l (pc := 2) hC (v := (lN n)) dX2_left_2 (nI_l (by have := hn.le; omega)) ?_
  refine gLrem (pc := 3) hC dX2_left_3 (m_l0 hn) rfl ?_
  refine gL2i (pc := 4) hC (v := q) dX2_left_4 (eq) ?_
  refine gIstoreN (pc := 5) hC (lv' := [(3, .int q), (0, .long v), (2, .int (nI n))]) dX2_left_5 rfl (by decide) rfl ?_
  refine gIloadN (pc := 6) hC dX2_left_6 rfl 0 rfl ?_
  refine gIf_ge (pc := 7) hC (tgt := 16) dX2_left_7 (by decide) (fun hc1 => ?_) (fun hc1 => ?_)
  · skip
    have eq2 : q = nI (ix n z) := by
      rcases hq with h | h
      · exact absurd h.1 (Int32.not_lt.mpr hc1)
      · exact h.2
    refine gIloadN (pc := 16) hC dX2_left_16 rfl 0 rfl ?_
    exact gRetI hC hQ hr (Nat.le_of_ble_eq_true rfl) (Nat.le_of_ble_eq_true rfl) dX2_left_17 (⟨rfl, by rw [eq2]⟩)
  · skip
    have eq2 : q + nI n = nI (ix n z) := by
      rcases hq with h | h
      · exact h.2
      · exact absurd (Int32.not_lt.mp h.1) hc1
    refine gIloadN (pc := 10) hC dX2_left_10 rfl 0 rfl ?_
    refine gIloadN (pc := 11) hC dX2_left_11 rfl 2 rfl ?_
    refine gIadd (pc := 12) hC (v := (nI (ix n z))) dX2_left_12 (eq2) ?_
    refine gGoto (pc := 13) hC (tgt := 17) dX2_left_13 (by decide) ?_
    exact gRetI hC hQ hr (Nat.le_of_ble_eq_true rfl) (Nat.le_of_ble_eq_true rfl) dX2_left_17 (⟨rfl, rfl⟩)

abbrev rmX2_exponent : Room := { frames := 1, cells := 0, slots := 0, locals := 23 }
set_option maxRecDepth 100000 in
set_option maxHeartbeats 4000000 in
theorem c_X2_exponent (l : Launch) (D : va_G) (L : mLay) (μ : mSt) (n o : Nat) (v : Int64) (z : Int) (hn : okN n) (ho : mo μ = nI o) (ho2 : o < 32) (hv : v.toInt = z) : gM l yX2_exponent wsX2_exponent rmX2_exponent D (mTy L) (WM L μ) [.ref (kx L), .int (nI n), .long v] 0 0 (fun r w => w = WM L μ ∧ r = some (.int (nI (xp o n z)))) := by
  refine gM.of (cc := cX2_exponent) (maxL := 4) (ret := (some .int)) (own := RX2) (by decide) rfl rfl (Nat.le_of_ble_eq_true rfl) rfl ?_
  intro p e s m args below meth c A Q hC hr hnm hQ
  have hin2 : ∀ w ∈ u_ws RX2 TX2 6, w ∈ wsX2_exponent := by decide +kernel
  have hl24 : Cond.fieldLink RX2 24 "RootrowsModel" "odd" "I" ∈ wsX2_exponent := by decide +kernel
  have hnl := hn.le
  have hnp := hn.pos
  have hix := ix_lt hnp z
  have hst : st32 n ≤ 32 := Nat.div_le_self _ _
  refine gAloadN (pc := 0) hC dX2_exponent_0 rfl 0 rfl ?_
  refine mGetInt (pc := 1) hC 4 (v := (nI o)) (by decide) ⟨rfl, congrArg (fun z => some (Value.int z)) (ho)⟩ hin2 hl24 dX2_exponent_1 ?_
  refine gBipush (pc := 4) hC (v := (nI 32)) dX2_exponent_4 (by decide +kernel) ?_
  refine gIloadN (pc := 6) hC dX2_exponent_6 rfl 1 rfl ?_
  refine gIdiv (pc := 7) hC (v := (nI (st32 n))) dX2_exponent_7 (by rcases hn with rfl | rfl | rfl | rfl | rfl <;> decide) (pk_div (by decide) hnp (by omega)) ?_
  refine gImul (pc := 8) hC (v := (nI (o * st32 n))) dX2_exponent_8 (pk_mul _ _) ?_
  refine gLloadN (pc := 9) hC dX2_exponent_9 rfl 2 rfl ?_
  refine gIloadN (pc := 10) hC dX2_exponent_10 rfl 1 rfl ?_
  refine gS (pc := 11) (rest := [.int (nI (o * st32 n))]) hC (c_X2_left l D _ _ v n z hn hv) (va_cwS 2 hC.2.2.2.2.1 gX2_exponent_X2_left rfl rfl rfl (by decide +kernel) ⟨Nat.le_of_ble_eq_true rfl, Nat.le_of_ble_eq_true rfl⟩) rfl rfl (Nat.le_of_ble_eq_true rfl) dX2_exponent_11 ⟨Nat.le_of_ble_eq_true rfl, Nat.le_of_ble_eq_true rfl⟩ (fun v w1 hp => ?_)
  obtain ⟨rfl, rfl⟩ := hp
  refine gStk (st' := [.int (nI (ix n z)), .int (nI (o * st32 n))]) (pc' := 14) rfl rfl ?_
  refine gImul (pc := 14) hC (v := (nI (o * st32 n * ix n z))) dX2_exponent_14 (pk_mul _ _) ?_
  refine gBipush (pc := 15) hC (v := (nI 32)) dX2_exponent_15 (by decide +kernel) ?_
  refine gIrem (pc := 17) hC (v := (nI (xp o n z))) dX2_exponent_17 (by decide) (pk_rem (Nat.lt_of_le_of_lt (Nat.mul_le_mul (Nat.mul_le_mul (Nat.le_of_lt ho2) hst) (Nat.le_of_lt (Nat.lt_of_lt_of_le hix hnl))) (by decide)) (by decide) (by decide)) ?_
  exact gRetI hC hQ hr (Nat.le_of_ble_eq_true rfl) (Nat.le_of_ble_eq_true rfl) dX2_exponent_18 (⟨rfl, rfl⟩)
