abbrev rmX1_rowAt : Room := { frames := 6, cells := 1, slots := 6, locals := 82 }
set_option maxRecDepth 100000 in
set_option maxHeartbeats 4000000 in
theorem c_X1_rowAt (l : Launch) (D : va_G) (L : cLay) (σ : cSt) (x : Int32) : gX l yX1_rowAt wsX1_rowAt rmX1_rowAt D (cTy L) (WC L σ) [.ref (lx L), .int x] 1 6 (fun r w => okR x ∧ r = some (.ref (la L (rI x))) ∧ w = WC L σ) (fun E w => E = XI ∧ w = WC L σ ∧ ¬ okR x) := by
  refine gX.of (cc := cX1_rowAt) (maxL := 2) (ret := (some (.object "Rootrows$Row"))) (own := RX1) (by decide) rfl rfl (Nat.le_of_ble_eq_true rfl) rfl ?_
  intro p e s m args below meth c A Q hC hr hQ hEx hl9
  have hin1 : ∀ w ∈ u_ws RX1 TX1 8, w ∈ wsX1_rowAt := by decide +kernel
  have hl11 : Cond.fieldLink RX1 11 "Rootrows" "rows" "[LRootrows$Row;" ∈ wsX1_rowAt := by decide +kernel
  refine gIloadN (pc := 0) hC dX1_rowAt_0 rfl 1 rfl ?_
  refine gIf_lt (pc := 1) hC (tgt := 9) dX1_rowAt_1 (by decide) (fun hc1 => ?_) (fun hc1 => ?_)
  · skip
    exact gThrow (pc := 9) (E := "java/lang/IndexOutOfBoundsException") (text := "there is no such row") hC hEx hl9 (by decide +kernel) (by decide +kernel) (by decide +kernel) (by decide +kernel) (by decide +kernel) (by decide +kernel) (by decide +kernel) dX1_rowAt_9 dX1_rowAt_12 dX1_rowAt_13 dX1_rowAt_15 dX1_rowAt_18 (Nat.le_of_ble_eq_true rfl) (Nat.le_of_ble_eq_true rfl) (Nat.le_of_ble_eq_true rfl) (Nat.le_of_ble_eq_true rfl) (Nat.le_of_ble_eq_true rfl) (Nat.le_of_ble_eq_true rfl) hQ (⟨rfl, rfl, fun h => h.1 hc1⟩)
  · skip
    refine gIloadN (pc := 4) hC dX1_rowAt_4 rfl 1 rfl ?_
    refine gIconst (pc := 5) hC (v := (nI 4)) dX1_rowAt_5 (by decide +kernel) ?_
    refine gIcmp_lt (pc := 6) hC (tgt := 19) dX1_rowAt_6 (by decide) (fun hc2 => ?_) (fun hc2 => ?_)
    · skip
      have hR : okR x := ⟨hc1, fun h => absurd hc2 (Int32.not_lt.mpr h)⟩
      obtain ⟨h4, ex⟩ := hR.get
      refine gAloadN (pc := 19) hC dX1_rowAt_19 rfl 0 rfl ?_
      refine cGetRows (pc := 20) hC hin1 hl11 dX1_rowAt_20 ?_
      refine gIloadN (pc := 23) hC dX1_rowAt_23 rfl 1 rfl ?_
      refine cRowAld (pc := 24) hC (rI x) (ex) (h4) dX1_rowAt_24 ?_
      exact gRetAX hC hQ hr (Or.inl ⟨_, rfl⟩) (Nat.le_of_ble_eq_true rfl) (Nat.le_of_ble_eq_true rfl) dX1_rowAt_25 (⟨hR, rfl, rfl⟩)
    · skip
      exact gThrow (pc := 9) (E := "java/lang/IndexOutOfBoundsException") (text := "there is no such row") hC hEx hl9 (by decide +kernel) (by decide +kernel) (by decide +kernel) (by decide +kernel) (by decide +kernel) (by decide +kernel) (by decide +kernel) dX1_rowAt_9 dX1_rowAt_12 dX1_rowAt_13 dX1_rowAt_15 dX1_rowAt_18 (Nat.le_of_ble_eq_true rfl) (Nat.le_of_ble_eq_true rfl) (Nat.le_of_ble_eq_true rfl) (Nat.le_of_ble_eq_true rfl) (Nat.le_of_ble_eq_true rfl) (Nat.le_of_ble_eq_true rfl) hQ (⟨rfl, rfl, fun h => hc2 (Int32.not_le.mp h.2)⟩)

abbrev rmX1_needPlace : Room := { frames := 6, cells := 1, slots := 6, locals := 82 }
set_option maxRecDepth 100000 in
set_option maxHeartbeats 4000000 in
theorem c_X1_needPlace (l : Launch) (D : va_G) (L : cLay) (σ : cSt) (k n : Nat) (F : Nat → Rg) (x : Int32) (hk : k < 10) (hF : rowIs σ k n F) : gX l yX1_needPlace wsX1_needPlace rmX1_needPlace D (cTy L) (WC L σ) [.ref (la L k), .int x] 1 6 (fun r w => okP x n ∧ r = none ∧ w = WC L σ) (fun E w => E = XI ∧ w = WC L σ ∧ ¬ okP x n) := by
  refine gX.of (cc := cX1_needPlace) (maxL := 2) (ret := none) (own := RX1) (by decide) rfl rfl (Nat.le_of_ble_eq_true rfl) rfl ?_
  intro p e s m args below meth c A Q hC hr hQ hEx hl9
  have hin0 : ∀ w ∈ u_ws RX0 TX0 2, w ∈ wsX1_needPlace := by decide +kernel
  have hl47 : Cond.fieldLink RX1 47 "Rootrows$Row" "size" "I" ∈ wsX1_needPlace := by decide +kernel
  refine gIloadN (pc := 0) hC dX1_needPlace_0 rfl 1 rfl ?_
  refine gIf_lt (pc := 1) hC (tgt := 12) dX1_needPlace_1 (by decide) (fun hc1 => ?_) (fun hc1 => ?_)
  · skip
    exact gThrow (pc := 12) (E := "java/lang/IndexOutOfBoundsException") (text := "there is no such place") hC hEx hl9 (by decide +kernel) (by decide +kernel) (by decide +kernel) (by decide +kernel) (by decide +kernel) (by decide +kernel) (by decide +kernel) dX1_needPlace_12 dX1_needPlace_15 dX1_needPlace_16 dX1_needPlace_18 dX1_needPlace_21 (Nat.le_of_ble_eq_true rfl) (Nat.le_of_ble_eq_true rfl) (Nat.le_of_ble_eq_true rfl) (Nat.le_of_ble_eq_true rfl) (Nat.le_of_ble_eq_true rfl) (Nat.le_of_ble_eq_true rfl) hQ (⟨rfl, rfl, fun h => h.1 hc1⟩)
  · skip
    refine gIloadN (pc := 4) hC dX1_needPlace_4 rfl 1 rfl ?_
    refine gAloadN (pc := 5) hC dX1_needPlace_5 rfl 0 rfl ?_
    refine cGetSize (pc := 6) hC (K := k) (v := (nI n)) hk hin0 hl47 (hF.1) dX1_needPlace_6 ?_
    refine gIcmp_lt (pc := 9) hC (tgt := 22) dX1_needPlace_9 (by decide) (fun hc2 => ?_) (fun hc2 => ?_)
    · skip
      exact gRetVX hC hQ hr (Nat.le_of_ble_eq_true rfl) (Nat.le_of_ble_eq_true rfl) dX1_needPlace_22 (⟨⟨hc1, fun h => absurd hc2 (Int32.not_lt.mpr h)⟩, rfl, rfl⟩)
    · skip
      exact gThrow (pc := 12) (E := "java/lang/IndexOutOfBoundsException") (text := "there is no such place") hC hEx hl9 (by decide +kernel) (by decide +kernel) (by decide +kernel) (by decide +kernel) (by decide +kernel) (by decide +kernel) (by decide +kernel) dX1_needPlace_12 dX1_needPlace_15 dX1_needPlace_16 dX1_needPlace_18 dX1_needPlace_21 (Nat.le_of_ble_eq_true rfl) (Nat.le_of_ble_eq_true rfl) (Nat.le_of_ble_eq_true rfl) (Nat.le_of_ble_eq_true rfl) (Nat.le_of_ble_eq_true rfl) (Nat.le_of_ble_eq_true rfl) hQ (⟨rfl, rfl, fun h => hc2 (Int32.not_le.mp h.2)⟩)

abbrev rmX1_needNumber : Room := { frames := 6, cells := 1, slots := 6, locals := 82 }
set_option maxRecDepth 100000 in
set_option maxHeartbeats 4000000 in
theorem c_X1_needNumber (l : Launch) (D : va_G) (tys : List (ClassId × FieldType)) (ws : va_W) (x : Int32) : gX l yX1_needNumber wsX1_needNumber rmX1_needNumber D tys ws [.int x] 1 6 (fun r w => okNum x ∧ r = none ∧ w = ws) (fun E w => E = XA ∧ w = ws ∧ ¬ okNum x) := by
  refine gX.of (cc := cX1_needNumber) (maxL := 1) (ret := none) (own := RX1) (by decide) rfl rfl (Nat.le_of_ble_eq_true rfl) rfl ?_
  intro p e s m args below meth c A Q hC hr hQ hEx hl9
  refine gIloadN (pc := 0) hC dX1_needNumber_0 rfl 0 rfl ?_
  refine gS (pc := 1) (rest := []) hC (c_X1_isNumber l D _ _ x) (va_cwS 1 hC.2.2.2.2.1 gX1_needNumber_X1_isNumber rfl rfl rfl (by decide +kernel) ⟨Nat.le_of_ble_eq_true rfl, Nat.le_of_ble_eq_true rfl⟩) rfl rfl (Nat.le_of_ble_eq_true rfl) dX1_needNumber_1 ⟨Nat.le_of_ble_eq_true rfl, Nat.le_of_ble_eq_true rfl⟩ (fun v w1 hp => ?_)
  obtain ⟨rfl, b1, rfl, hb1⟩ := hp
  refine gStk (st' := [.int b1]) (pc' := 4) rfl rfl ?_
  refine gIf_ne (pc := 4) hC (tgt := 17) dX1_needNumber_4 (by decide) (fun hc1 => ?_) (fun hc1 => ?_)
  · skip
    exact gRetVX hC hQ hr (Nat.le_of_ble_eq_true rfl) (Nat.le_of_ble_eq_true rfl) dX1_needNumber_17 (⟨by rcases hb1 with a | a; exact a.2; (rw [a.1] at hc1; exact absurd (by decide) hc1), rfl, rfl⟩)
  · skip
    exact gThrow (pc := 7) (E := "java/lang/IllegalArgumentException") (text := "the number is out of range") hC hEx hl9 (by decide +kernel) (by decide +kernel) (by decide +kernel) (by decide +kernel) (by decide +kernel) (by decide +kernel) (by decide +kernel) dX1_needNumber_7 dX1_needNumber_10 dX1_needNumber_11 dX1_needNumber_13 dX1_needNumber_16 (Nat.le_of_ble_eq_true rfl) (Nat.le_of_ble_eq_true rfl) (Nat.le_of_ble_eq_true rfl) (Nat.le_of_ble_eq_true rfl) (Nat.le_of_ble_eq_true rfl) (Nat.le_of_ble_eq_true rfl) hQ (⟨rfl, rfl, fun h => by rcases hb1 with a | a; (rw [a.1] at hc1; revert hc1; decide); exact a.2 h⟩)

abbrev rmX1_needLength : Room := { frames := 6, cells := 1, slots := 6, locals := 82 }
set_option maxRecDepth 100000 in
set_option maxHeartbeats 4000000 in
theorem c_X1_needLength (l : Launch) (D : va_G) (tys : List (ClassId × FieldType)) (ws : va_W) (x : Int32) : gX l yX1_needLength wsX1_needLength rmX1_needLength D tys ws [.int x] 1 6 (fun r w => okLI x ∧ r = none ∧ w = ws) (fun E w => E = XA ∧ w = ws ∧ ¬ okLI x) := by
  refine gX.of (cc := cX1_needLength) (maxL := 1) (ret := none) (own := RX1) (by decide) rfl rfl (Nat.le_of_ble_eq_true rfl) rfl ?_
  intro p e s m args below meth c A Q hC hr hQ hEx hl9
  refine gIloadN (pc := 0) hC dX1_needLength_0 rfl 0 rfl ?_
  refine gIconst (pc := 1) hC (v := (nI 2)) dX1_needLength_1 (by decide +kernel) ?_
  refine gIcmp_lt (pc := 2) hC (tgt := 12) dX1_needLength_2 (by decide) (fun hc1 => ?_) (fun hc1 => ?_)
  · skip
    exact gThrow (pc := 12) (E := "java/lang/IllegalArgumentException") (text := "length is none of 2, 4, 8 and 16") hC hEx hl9 (by decide +kernel) (by decide +kernel) (by decide +kernel) (by decide +kernel) (by decide +kernel) (by decide +kernel) (by decide +kernel) dX1_needLength_12 dX1_needLength_15 dX1_needLength_16 dX1_needLength_18 dX1_needLength_21 (Nat.le_of_ble_eq_true rfl) (Nat.le_of_ble_eq_true rfl) (Nat.le_of_ble_eq_true rfl) (Nat.le_of_ble_eq_true rfl) (Nat.le_of_ble_eq_true rfl) (Nat.le_of_ble_eq_true rfl) hQ (⟨rfl, rfl, fun h => by revert hc1; rcases h with rfl | rfl | rfl | rfl <;> decide⟩)
  · skip
    refine gIloadN (pc := 5) hC dX1_needLength_5 rfl 0 rfl ?_
    refine gS (pc := 6) (rest := []) hC (c_X1_isPowerOfTwo l D _ _ x) (va_cwS 1 hC.2.2.2.2.1 gX1_needLength_X1_isPowerOfTwo rfl rfl rfl (by decide +kernel) ⟨Nat.le_of_ble_eq_true rfl, Nat.le_of_ble_eq_true rfl⟩) rfl rfl (Nat.le_of_ble_eq_true rfl) dX1_needLength_6 ⟨Nat.le_of_ble_eq_true rfl, Nat.le_of_ble_eq_true rfl⟩ (fun v w1 hp => ?_)
    obtain ⟨rfl, b1, rfl, hb1⟩ := hp
    refine gStk (st' := [.int b1]) (pc' := 9) rfl rfl ?_
    refine gIf_ne (pc := 9) hC (tgt := 22) dX1_needLength_9 (by decide) (fun hc2 => ?_) (fun hc2 => ?_)
    · skip
      exact gRetVX hC hQ hr (Nat.le_of_ble_eq_true rfl) (Nat.le_of_ble_eq_true rfl) dX1_needLength_22 (⟨by rcases hb1 with ⟨a, n, hn, hx⟩ | a; (subst hx; rcases hn with rfl | hn; (exact absurd (by decide) hc1); (rcases hn with rfl | rfl | rfl | rfl; exact Or.inl rfl; exact Or.inr (Or.inl rfl); exact Or.inr (Or.inr (Or.inl rfl)); exact Or.inr (Or.inr (Or.inr rfl)))); (rw [a.1] at hc2; exact absurd (by decide) hc2), rfl, rfl⟩)
    · skip
      exact gThrow (pc := 12) (E := "java/lang/IllegalArgumentException") (text := "length is none of 2, 4, 8 and 16") hC hEx hl9 (by decide +kernel) (by decide +kernel) (by decide +kernel) (by decide +kernel) (by decide +kernel) (by decide +kernel) (by decide +kernel) dX1_needLength_12 dX1_needLength_15 dX1_needLength_16 dX1_needLength_18 dX1_needLength_21 (Nat.le_of_ble_eq_true rfl) (Nat.le_of_ble_eq_true rfl) (Nat.le_of_ble_eq_true rfl) (Nat.le_of_ble_eq_true rfl) (Nat.le_of_ble_eq_true rfl) (Nat.le_of_ble_eq_true rfl) hQ (⟨rfl, rfl, fun h => by rcases hb1 with a | a; (rw [a.1] at hc2; revert hc2; decide); exact a.2 _ h.get.1.N h.get.2⟩)

abbrev rmX1_needAfter : Room := { frames := 6, cells := 1, slots := 6, locals := 82 }
set_option maxRecDepth 100000 in
set_option maxHeartbeats 4000000 in
theorem c_X1_needAfter (l : Launch) (D : va_G) (L : cLay) (σ : cSt) (k n : Nat) (F : Nat → Rg) (x : Int32) (hk : k < 10) (hF : rowIs σ k n F) : gX l yX1_needAfter wsX1_needAfter rmX1_needAfter D (cTy L) (WC L σ) [.ref (la L k), .int x] 1 6 (fun r w => (okD x ∧ ¬ nI n < x) ∧ r = none ∧ w = WC L σ) (fun E w => E = XA ∧ w = WC L σ ∧ ¬ (okD x ∧ ¬ nI n < x)) := by
  refine gX.of (cc := cX1_needAfter) (maxL := 2) (ret := none) (own := RX1) (by decide) rfl rfl (Nat.le_of_ble_eq_true rfl) rfl ?_
  intro p e s m args below meth c A Q hC hr hQ hEx hl9
  have hin0 : ∀ w ∈ u_ws RX0 TX0 2, w ∈ wsX1_needAfter := by decide +kernel
  have hl47 : Cond.fieldLink RX1 47 "Rootrows$Row" "size" "I" ∈ wsX1_needAfter := by decide +kernel
  refine gIloadN (pc := 0) hC dX1_needAfter_0 rfl 1 rfl ?_
  refine gS (pc := 1) (rest := []) hC (c_X1_isPowerOfTwo l D _ _ x) (va_cwS 1 hC.2.2.2.2.1 gX1_needAfter_X1_isPowerOfTwo rfl rfl rfl (by decide +kernel) ⟨Nat.le_of_ble_eq_true rfl, Nat.le_of_ble_eq_true rfl⟩) rfl rfl (Nat.le_of_ble_eq_true rfl) dX1_needAfter_1 ⟨Nat.le_of_ble_eq_true rfl, Nat.le_of_ble_eq_true rfl⟩ (fun v w1 hp => ?_)
  obtain ⟨rfl, b1, rfl, hb1⟩ := hp
  refine gStk (st' := [.int b1]) (pc' := 4) rfl rfl ?_
  refine gIf_eq (pc := 4) hC (tgt := 15) dX1_needAfter_4 (by decide) (fun hc1 => ?_) (fun hc1 => ?_)
  · skip
    exact gThrow (pc := 15) (E := "java/lang/IllegalArgumentException") (text := "after is none of 1, 2, 4, 8 and 16, or greater than the length") hC hEx hl9 (by decide +kernel) (by decide +kernel) (by decide +kernel) (by decide +kernel) (by decide +kernel) (by decide +kernel) (by decide +kernel) dX1_needAfter_15 dX1_needAfter_18 dX1_needAfter_19 dX1_needAfter_21 dX1_needAfter_24 (Nat.le_of_ble_eq_true rfl) (Nat.le_of_ble_eq_true rfl) (Nat.le_of_ble_eq_true rfl) (Nat.le_of_ble_eq_true rfl) (Nat.le_of_ble_eq_true rfl) (Nat.le_of_ble_eq_true rfl) hQ (⟨rfl, rfl, fun h => by rcases hb1 with a | a; (rw [a.1] at hc1; revert hc1; decide); exact a.2 _ h.1.get.1 h.1.get.2⟩)
  · skip
    have hD : okD x := by
      rcases hb1 with ⟨a, n, hn, hx⟩ | a
      · exact okD.of hn hx
      · rw [a.1] at hc1; exact absurd (by decide) hc1
    refine gIloadN (pc := 7) hC dX1_needAfter_7 rfl 1 rfl ?_
    refine gAloadN (pc := 8) hC dX1_needAfter_8 rfl 0 rfl ?_
    refine cGetSize (pc := 9) hC (K := k) (v := (nI n)) hk hin0 hl47 (hF.1) dX1_needAfter_9 ?_
    refine gIcmp_le (pc := 12) hC (tgt := 25) dX1_needAfter_12 (by decide) (fun hc2 => ?_) (fun hc2 => ?_)
    · skip
      exact gRetVX hC hQ hr (Nat.le_of_ble_eq_true rfl) (Nat.le_of_ble_eq_true rfl) dX1_needAfter_25 (⟨⟨hD, Int32.not_lt.mpr hc2⟩, rfl, rfl⟩)
    · skip
      exact gThrow (pc := 15) (E := "java/lang/IllegalArgumentException") (text := "after is none of 1, 2, 4, 8 and 16, or greater than the length") hC hEx hl9 (by decide +kernel) (by decide +kernel) (by decide +kernel) (by decide +kernel) (by decide +kernel) (by decide +kernel) (by decide +kernel) dX1_needAfter_15 dX1_needAfter_18 dX1_needAfter_19 dX1_needAfter_21 dX1_needAfter_24 (Nat.le_of_ble_eq_true rfl) (Nat.le_of_ble_eq_true rfl) (Nat.le_of_ble_eq_true rfl) (Nat.le_of_ble_eq_true rfl) (Nat.le_of_ble_eq_true rfl) (Nat.le_of_ble_eq_true rfl) hQ (⟨rfl, rfl, fun h => h.2 (Int32.not_le.mp hc2)⟩)

abbrev rmX1_needAlike : Room := { frames := 6, cells := 1, slots := 6, locals := 82 }
set_option maxRecDepth 100000 in
set_option maxHeartbeats 4000000 in
theorem c_X1_needAlike (l : Launch) (D : va_G) (L : cLay) (σ : cSt) (k q n n2 : Nat) (F G : Nat → Rg) (hk : k < 10) (hq : q < 10) (hF : rowIs σ k n F) (hG : rowIs σ q n2 G) (hn : n ≤ 16) (hn2 : n2 ≤ 16) : gX l yX1_needAlike wsX1_needAlike rmX1_needAlike D (cTy L) (WC L σ) [.ref (la L k), .ref (la L q)] 1 6 (fun r w => n = n2 ∧ r = none ∧ w = WC L σ) (fun E w => E = XS ∧ w = WC L σ ∧ ¬ n = n2) := by
  refine gX.of (cc := cX1_needAlike) (maxL := 2) (ret := none) (own := RX1) (by decide) rfl rfl (Nat.le_of_ble_eq_true rfl) rfl ?_
  intro p e s m args below meth c A Q hC hr hQ hEx hl9
  have hin0 : ∀ w ∈ u_ws RX0 TX0 2, w ∈ wsX1_needAlike := by decide +kernel
  have hl47 : Cond.fieldLink RX1 47 "Rootrows$Row" "size" "I" ∈ wsX1_needAlike := by decide +kernel
  refine gAloadN (pc := 0) hC dX1_needAlike_0 rfl 0 rfl ?_
  refine cGetSize (pc := 1) hC (K := k) (v := (nI n)) hk hin0 hl47 (hF.1) dX1_needAlike_1 ?_
  refine gAloadN (pc := 4) hC dX1_needAlike_4 rfl 1 rfl ?_
  refine cGetSize (pc := 5) hC (K := q) (v := (nI n2)) hq hin0 hl47 (hG.1) dX1_needAlike_5 ?_
  refine gIcmp_eq (pc := 8) hC (tgt := 21) dX1_needAlike_8 (by decide) (fun hc1 => ?_) (fun hc1 => ?_)
  · skip
    exact gRetVX hC hQ hr (Nat.le_of_ble_eq_true rfl) (Nat.le_of_ble_eq_true rfl) dX1_needAlike_21 (⟨(nI_eq (by omega) (by omega)).mp hc1, rfl, rfl⟩)
  · skip
    exact gThrow (pc := 11) (E := "java/lang/IllegalStateException") (text := "the lengths are unlike") hC hEx hl9 (by decide +kernel) (by decide +kernel) (by decide +kernel) (by decide +kernel) (by decide +kernel) (by decide +kernel) (by decide +kernel) dX1_needAlike_11 dX1_needAlike_14 dX1_needAlike_15 dX1_needAlike_17 dX1_needAlike_20 (Nat.le_of_ble_eq_true rfl) (Nat.le_of_ble_eq_true rfl) (Nat.le_of_ble_eq_true rfl) (Nat.le_of_ble_eq_true rfl) (Nat.le_of_ble_eq_true rfl) (Nat.le_of_ble_eq_true rfl) hQ (⟨rfl, rfl, fun h => hc1 (by rw [h])⟩)

abbrev rmX1_needRoom : Room := { frames := 6, cells := 1, slots := 6, locals := 82 }
set_option maxRecDepth 100000 in
set_option maxHeartbeats 4000000 in
theorem c_X1_needRoom (l : Launch) (D : va_G) (L : cLay) (σ : cSt) (k n : Nat) (F : Nat → Rg) (hk : k < 10) (hF : rowIs σ k n F) (hn : n ≤ 16) : gX l yX1_needRoom wsX1_needRoom rmX1_needRoom D (cTy L) (WC L σ) [.ref (la L k)] 1 6 (fun r w => n < 16 ∧ r = none ∧ w = WC L σ) (fun E w => E = XS ∧ w = WC L σ ∧ ¬ n < 16) := by
  refine gX.of (cc := cX1_needRoom) (maxL := 1) (ret := none) (own := RX1) (by decide) rfl rfl (Nat.le_of_ble_eq_true rfl) rfl ?_
  intro p e s m args below meth c A Q hC hr hQ hEx hl9
  have hin0 : ∀ w ∈ u_ws RX0 TX0 2, w ∈ wsX1_needRoom := by decide +kernel
  have hl47 : Cond.fieldLink RX1 47 "Rootrows$Row" "size" "I" ∈ wsX1_needRoom := by decide +kernel
  refine gAloadN (pc := 0) hC dX1_needRoom_0 rfl 0 rfl ?_
  refine cGetSize (pc := 1) hC (K := k) (v := (nI n)) hk hin0 hl47 (hF.1) dX1_needRoom_1 ?_
  refine gBipush (pc := 4) hC (v := (nI 16)) dX1_needRoom_4 (by decide +kernel) ?_
  refine gIcmp_lt (pc := 6) hC (tgt := 19) dX1_needRoom_6 (by decide) (fun hc1 => ?_) (fun hc1 => ?_)
  · skip
    exact gRetVX hC hQ hr (Nat.le_of_ble_eq_true rfl) (Nat.le_of_ble_eq_true rfl) dX1_needRoom_19 (⟨by rcases Nat.lt_or_ge n 16 with q | q; exact q; exact absurd hc1 (nI_nlt q (by omega)), rfl, rfl⟩)
  · skip
    exact gThrow (pc := 9) (E := "java/lang/IllegalStateException") (text := "the length is 16") hC hEx hl9 (by decide +kernel) (by decide +kernel) (by decide +kernel) (by decide +kernel) (by decide +kernel) (by decide +kernel) (by decide +kernel) dX1_needRoom_9 dX1_needRoom_12 dX1_needRoom_13 dX1_needRoom_15 dX1_needRoom_18 (Nat.le_of_ble_eq_true rfl) (Nat.le_of_ble_eq_true rfl) (Nat.le_of_ble_eq_true rfl) (Nat.le_of_ble_eq_true rfl) (Nat.le_of_ble_eq_true rfl) (Nat.le_of_ble_eq_true rfl) hQ (⟨rfl, rfl, fun h => hc1 (nI_lt h (by decide))⟩)
