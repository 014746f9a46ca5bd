abbrev rmJ7_fill_53178 : Room := { frames := 0, cells := 0, slots := 0, locals := 0 }
set_option maxRecDepth 100000 in
set_option maxHeartbeats 4000000 in
theorem c_J7_fill_53178 (l : Launch) (D : va_G) (L : cLay) (σ : cSt) (k : Nat) (hk : k < 10) (v : Int32) : gM l yJ7_fill_53178 wsJ7_fill_53178 rmJ7_fill_53178 D (cTy L) (WC L σ) [.ref (lb L k), .int v] 0 0 (fun r w => r = none ∧ ∃ σ', w = WC L σ' ∧ cSame σ σ' k ∧ σ'.2.1 = σ.2.1 ∧ ∀ j, j < 16 → σ'.2.2 k j = v) := by
  refine gM.of (cc := cJ7_fill_53178) (maxL := 4) (ret := none) (own := RJ7) (by decide) rfl rfl (Nat.le_of_ble_eq_true rfl) rfl ?_
  intro p e s m args below meth c A Q hC hr hnm hQ
  refine gIconst (pc := 0) hC (v := (nI 0)) dJ7_fill_53178_0 (by decide +kernel) ?_
  refine gIstoreN (pc := 1) hC (lv' := [(2, .int (nI 0)), (0, .ref (lb L k)), (1, .int v)]) dJ7_fill_53178_1 rfl (by decide) rfl ?_
  refine gAloadN (pc := 2) hC dJ7_fill_53178_2 rfl 1 rfl ?_
  refine gAlen (pc := 3) hC (v := nI 16) _ 0 (wc_num hk) rfl rfl dJ7_fill_53178_3 ?_
  refine gIstoreN (pc := 4) hC (lv' := [(3, .int (nI 16)), (2, .int (nI 0)), (0, .ref (lb L k)), (1, .int v)]) dJ7_fill_53178_4 rfl (by decide) rfl ?_
  have h0 : cSame σ σ k := cSame.rf σ k
  refine gLoc (lv' := [(2, .int (nI 0)), (3, .int (nI 16)), (0, .ref (lb L k)), (1, .int v)]) [1, 0, 2, 3] rfl ?_
  refine loopUp (S := cSt) (fun i ζ => gG p l e rmJ7_fill_53178 s m args below meth c D A 4 0 0 Q (WC L ζ) 5 [(2, .int (nI i)), (3, .int (nI 16)), (0, .ref (lb L k)), (1, .int v)] []) (fun i ζ => cSame σ ζ k ∧ ζ.2.1 = σ.2.1 ∧ ∀ j, j < i → ζ.2.2 k j = v) 16 ?_ ?_ 0 (σ) (by omega) (⟨cSame.rf σ k, rfl, fun j hj => absurd hj (Nat.not_lt_zero j)⟩)
  · intro ζ hI
    revert hI; generalize ζ = σ1; intro hI
    refine gIloadN (pc := 5) hC dJ7_fill_53178_5 rfl 0 rfl ?_
    refine gIloadN (pc := 6) hC dJ7_fill_53178_6 rfl 1 rfl ?_
    refine gIcmp_ge (pc := 7) hC (tgt := 20) dJ7_fill_53178_7 (by decide) (fun hc1 => ?_) (fun hc1 => absurd (nI_le (Nat.le_refl _) (by decide)) hc1)
    exact gRetV hC hQ hr (Nat.le_of_ble_eq_true rfl) (Nat.le_of_ble_eq_true rfl) dJ7_fill_53178_20 (⟨rfl, σ1, rfl, hI.1, hI.2.1, hI.2.2⟩)
  · intro i ζ hi hI ih
    revert hI; generalize ζ = σ1; intro hI
    refine gIloadN (pc := 5) hC dJ7_fill_53178_5 rfl 0 rfl ?_
    refine gIloadN (pc := 6) hC dJ7_fill_53178_6 rfl 1 rfl ?_
    refine gIcmp_ge (pc := 7) hC (tgt := 20) dJ7_fill_53178_7 (by decide) (fun hc2 => absurd hc2 (nI_ge hi (by decide))) (fun hc2 => ?_)
    refine gAloadN (pc := 10) hC dJ7_fill_53178_10 rfl 2 rfl ?_
    refine gIloadN (pc := 11) hC dJ7_fill_53178_11 rfl 0 rfl ?_
    refine gIloadN (pc := 12) hC dJ7_fill_53178_12 rfl 3 rfl ?_
    obtain ⟨σ3, eσ3⟩ : ∃ ζ : cSt, ζ = cNm σ1 k (upd (σ1.2.2 k) i v) := ⟨_, rfl⟩
    refine cNumSt (pc := 13) hC (K := k) hk i (rfl) (by omega) eσ3 dJ7_fill_53178_13 ?_
    refine gIinc (pc := 14) hC (v := (nI (i + 1))) (lv' := [(2, .int (nI (i + 1))), (3, .int (nI 16)), (0, .ref (lb L k)), (1, .int v)]) dJ7_fill_53178_14 (q := 0) rfl (nI_1 _) (by decide) rfl ?_
    refine gGoto (pc := 17) hC (tgt := 5) dJ7_fill_53178_17 (by decide) ?_
    refine gLoc (lv' := [(2, .int (nI (i + 1))), (3, .int (nI 16)), (0, .ref (lb L k)), (1, .int v)]) [0, 1, 2, 3] rfl ?_
    exact ih (σ3) (by subst eσ3; exact ⟨hI.1.tr (cSame.nm _ _ _), hI.2.1, lt_s (fun j hj => by rw [cNm_at, upd_ne _ _ (by omega)]; exact hI.2.2 j hj) (by rw [cNm_at]; exact upd_at _ _ _)⟩)

abbrev rmX0_clear : Room := { frames := 1, cells := 0, slots := 0, locals := 23 }
set_option maxRecDepth 100000 in
set_option maxHeartbeats 4000000 in
theorem c_X0_clear (l : Launch) (D : va_G) (L : cLay) (σ : cSt) (k : Nat) (hk : k < 10) (v : Int32) : gM l yX0_clear wsX0_clear rmX0_clear D (cTy L) (WC L σ) [.ref (la L k), .int v] 0 0 (fun r w => r = none ∧ ∃ σ', w = WC L σ' ∧ cSame σ σ' k ∧ σ'.2.1 k = v ∧ ∀ j, j < 16 → σ'.2.2 k j = nI 0) := by
  refine gM.of (cc := cX0_clear) (maxL := 2) (ret := none) (own := RX0) (by decide) rfl rfl (Nat.le_of_ble_eq_true rfl) rfl ?_
  intro p e s m args below meth c A Q hC hr hnm hQ
  have hin0 : ∀ w ∈ u_ws RX0 TX0 2, w ∈ wsX0_clear := by decide +kernel
  have hl9 : Cond.fieldLink RX0 9 "Rootrows$Row" "numbers" "[I" ∈ wsX0_clear := by decide +kernel
  have hl15 : Cond.fieldLink RX0 15 "Rootrows$Row" "size" "I" ∈ wsX0_clear := by decide +kernel
  refine gAloadN (pc := 0) hC dX0_clear_0 rfl 0 rfl ?_
  refine gIloadN (pc := 1) hC dX0_clear_1 rfl 1 rfl ?_
  obtain ⟨σ1, eσ1⟩ : ∃ ζ : cSt, ζ = cSz σ k v := ⟨_, rfl⟩
  refine cPutSize (pc := 2) hC (K := k) hk hin0 hl15 eσ1 dX0_clear_2 ?_
  refine gAloadN (pc := 5) hC dX0_clear_5 rfl 0 rfl ?_
  refine cGetNums (pc := 6) hC (K := k) hk hin0 hl9 dX0_clear_6 ?_
  refine gIconst (pc := 9) hC (v := (nI 0)) dX0_clear_9 (by decide +kernel) ?_
  refine gS (pc := 10) (rest := []) hC (c_J7_fill_53178 l D L σ1 k hk (nI 0)) (va_cwS 2 hC.2.2.2.2.1 gX0_clear_J7_fill_53178 rfl rfl rfl (by decide +kernel) ⟨Nat.le_of_ble_eq_true rfl, Nat.le_of_ble_eq_true rfl⟩) rfl rfl (Nat.le_of_ble_eq_true rfl) dX0_clear_10 ⟨Nat.le_of_ble_eq_true rfl, Nat.le_of_ble_eq_true rfl⟩ (fun v w1 hp => ?_)
  obtain ⟨rfl, σ', rfl, h1, h2, h3⟩ := hp
  refine gStk (st' := []) (pc' := 13) rfl rfl ?_
  exact gRetV hC hQ hr (Nat.le_of_ble_eq_true rfl) (Nat.le_of_ble_eq_true rfl) dX0_clear_13 (⟨rfl, σ', rfl, by subst eσ1; exact (cSame.sz _ _ _).tr h1, by rw [h2, eσ1]; exact cSz_at _ _ _, h3⟩)

abbrev rmX0_take : Room := { frames := 1, cells := 0, slots := 0, locals := 60 }
set_option maxRecDepth 100000 in
set_option maxHeartbeats 4000000 in
theorem c_X0_take (l : Launch) (D : va_G) (L : cLay) (σ : cSt) (k i : Nat) (hk : k < 10) (hi : i < 10) : gM l yX0_take wsX0_take rmX0_take D (cTy L) (WC L σ) [.ref (la L k), .ref (la L i)] 0 0 (fun r w => r = none ∧ ∃ σ', w = WC L σ' ∧ cSame σ σ' k ∧ σ'.2.1 k = σ.2.1 i ∧ ∀ j, j < 16 → σ'.2.2 k j = σ.2.2 i j) := by
  refine gM.of (cc := cX0_take) (maxL := 2) (ret := none) (own := RX0) (by decide) rfl rfl (Nat.le_of_ble_eq_true rfl) rfl ?_
  intro p e s m args below meth c A Q hC hr hnm hQ
  have hin0 : ∀ w ∈ u_ws RX0 TX0 2, w ∈ wsX0_take := by decide +kernel
  have hl9 : Cond.fieldLink RX0 9 "Rootrows$Row" "numbers" "[I" ∈ wsX0_take := by decide +kernel
  have hl15 : Cond.fieldLink RX0 15 "Rootrows$Row" "size" "I" ∈ wsX0_take := by decide +kernel
  refine gAloadN (pc := 0) hC dX0_take_0 rfl 0 rfl ?_
  refine gAloadN (pc := 1) hC dX0_take_1 rfl 1 rfl ?_
  refine cGetSize (pc := 2) hC (K := i) hi hin0 hl15 rfl dX0_take_2 ?_
  obtain ⟨σ1, eσ1⟩ : ∃ ζ : cSt, ζ = cSz σ k (σ.2.1 i) := ⟨_, rfl⟩
  refine cPutSize (pc := 5) hC (K := k) hk hin0 hl15 eσ1 dX0_take_5 ?_
  refine gAloadN (pc := 8) hC dX0_take_8 rfl 1 rfl ?_
  refine cGetNums (pc := 9) hC (K := i) hi hin0 hl9 dX0_take_9 ?_
  refine gIconst (pc := 12) hC (v := (nI 0)) dX0_take_12 (by decide +kernel) ?_
  refine gAloadN (pc := 13) hC dX0_take_13 rfl 0 rfl ?_
  refine cGetNums (pc := 14) hC (K := k) hk hin0 hl9 dX0_take_14 ?_
  refine gIconst (pc := 17) hC (v := (nI 0)) dX0_take_17 (by decide +kernel) ?_
  refine gBipush (pc := 18) hC (v := (nI 16)) dX0_take_18 (by decide +kernel) ?_
  obtain ⟨σ2, eσ2⟩ : ∃ ζ : cSt, ζ = cNm σ1 k (va_cpy (σ1.2.2 i) (σ1.2.2 k) 0 0 16) := ⟨_, rfl⟩
  refine cCopy (pc := 20) (K := k) (J := i) hC hk hi 0 0 16 (rfl) (rfl) (rfl) (by omega) (by omega) (by decide +kernel) (by decide +kernel) (by decide +kernel) (by decide +kernel) (Nat.le_of_ble_eq_true rfl) (Nat.le_of_ble_eq_true rfl) eσ2 dX0_take_20 ?_
  exact gRetV hC hQ hr (Nat.le_of_ble_eq_true rfl) (Nat.le_of_ble_eq_true rfl) dX0_take_23 (⟨rfl, σ2, rfl, by subst eσ2; subst eσ1; exact (cSame.sz _ _ _).tr (cSame.nm _ _ _), by subst eσ2; subst eσ1; exact cSz_at _ _ _, fun j hj => by subst eσ2; subst eσ1; rw [cNm_at, pk_cpy_in (Nat.zero_le _) (by omega)]; simp [cSz]⟩)

abbrev rmX0_isLike : Room := { frames := 0, cells := 0, slots := 0, locals := 0 }
set_option maxRecDepth 100000 in
set_option maxHeartbeats 4000000 in
theorem c_X0_isLike (l : Launch) (D : va_G) (L : cLay) (σ : cSt) (k q n : Nat) (hk : k < 10) (hq : q < 10) (hn : σ.2.1 k = nI n) (hnl : n ≤ 16) : gM l yX0_isLike wsX0_isLike rmX0_isLike D (cTy L) (WC L σ) [.ref (la L k), .ref (la L q)] 0 0 (fun r w => w = WC L σ ∧ ∃ b : Int32, r = some (.int b) ∧ ((b = nI 1 ∧ σ.2.1 k = σ.2.1 q ∧ ∀ j, j < n → σ.2.2 k j = σ.2.2 q j) ∨ (b = nI 0 ∧ ¬ (σ.2.1 k = σ.2.1 q ∧ ∀ j, j < n → σ.2.2 k j = σ.2.2 q j)))) := by
  refine gM.of (cc := cX0_isLike) (maxL := 3) (ret := (some .boolean)) (own := RX0) (by decide) rfl rfl (Nat.le_of_ble_eq_true rfl) rfl ?_
  intro p e s m args below meth c A Q hC hr hnm hQ
  have hin0 : ∀ w ∈ u_ws RX0 TX0 2, w ∈ wsX0_isLike := by decide +kernel
  have hl9 : Cond.fieldLink RX0 9 "Rootrows$Row" "numbers" "[I" ∈ wsX0_isLike := by decide +kernel
  have hl15 : Cond.fieldLink RX0 15 "Rootrows$Row" "size" "I" ∈ wsX0_isLike := by decide +kernel
  refine gAloadN (pc := 0) hC dX0_isLike_0 rfl 0 rfl ?_
  refine cGetSize (pc := 1) hC (K := k) (v := (nI n)) hk hin0 hl15 (hn) dX0_isLike_1 ?_
  refine gAloadN (pc := 4) hC dX0_isLike_4 rfl 1 rfl ?_
  refine cGetSize (pc := 5) hC (K := q) hq hin0 hl15 rfl dX0_isLike_5 ?_
  refine gIcmp_eq (pc := 8) hC (tgt := 13) dX0_isLike_8 (by decide) (fun hc1 => ?_) (fun hc1 => ?_)
  · skip
    refine gIconst (pc := 13) hC (v := (nI 0)) dX0_isLike_13 (by decide +kernel) ?_
    refine gIstoreN (pc := 14) hC (lv' := [(2, .int (nI 0)), (0, .ref (la L k)), (1, .ref (la L q))]) dX0_isLike_14 rfl (by decide) rfl ?_
    refine gLoc (lv' := [(2, .int (nI 0)), (0, .ref (la L k)), (1, .ref (la L q))]) [0, 1, 2] rfl ?_
    refine loopUp (S := Unit) (fun i ζ => gG p l e rmX0_isLike s m args below meth c D A 3 0 0 Q (WC L σ) 15 [(2, .int (nI i)), (0, .ref (la L k)), (1, .ref (la L q))] []) (fun i ζ => True ∧ ∀ j, j < i → σ.2.2 k j = σ.2.2 q j) n ?_ ?_ 0 (()) (by omega) (⟨trivial, fun j hj => absurd hj (Nat.not_lt_zero j)⟩)
    · intro ζ hI
      revert hI; generalize ζ = u; intro hI
      refine gIloadN (pc := 15) hC dX0_isLike_15 rfl 0 rfl ?_
      refine gAloadN (pc := 16) hC dX0_isLike_16 rfl 1 rfl ?_
      refine cGetSize (pc := 17) hC (K := k) (v := (nI n)) hk hin0 hl15 (hn) dX0_isLike_17 ?_
      refine gIcmp_ge (pc := 20) hC (tgt := 46) dX0_isLike_20 (by decide) (fun hc2 => ?_) (fun hc2 => absurd (nI_le (Nat.le_refl _) (by omega)) hc2)
      refine gIconst (pc := 46) hC (v := (nI 1)) dX0_isLike_46 (by decide +kernel) ?_
      exact gRetZ hC hQ hr (rfl) (Nat.le_of_ble_eq_true rfl) (Nat.le_of_ble_eq_true rfl) dX0_isLike_47 (⟨rfl, nI 1, rfl, Or.inl ⟨rfl, hn.trans hc1, hI.2⟩⟩)
    · intro i ζ hi hI ih
      revert hI; generalize ζ = u; intro hI
      refine gIloadN (pc := 15) hC dX0_isLike_15 rfl 0 rfl ?_
      refine gAloadN (pc := 16) hC dX0_isLike_16 rfl 1 rfl ?_
      refine cGetSize (pc := 17) hC (K := k) (v := (nI n)) hk hin0 hl15 (hn) dX0_isLike_17 ?_
      refine gIcmp_ge (pc := 20) hC (tgt := 46) dX0_isLike_20 (by decide) (fun hc3 => absurd hc3 (nI_ge hi (by omega))) (fun hc3 => ?_)
      refine gAloadN (pc := 23) hC dX0_isLike_23 rfl 1 rfl ?_
      refine cGetNums (pc := 24) hC (K := k) hk hin0 hl9 dX0_isLike_24 ?_
      refine gIloadN (pc := 27) hC dX0_isLike_27 rfl 0 rfl ?_
      refine cNumLd (pc := 28) hC (K := k) hk i (rfl) (by omega) rfl dX0_isLike_28 ?_
      refine gAloadN (pc := 29) hC dX0_isLike_29 rfl 2 rfl ?_
      refine cGetNums (pc := 30) hC (K := q) hq hin0 hl9 dX0_isLike_30 ?_
      refine gIloadN (pc := 33) hC dX0_isLike_33 rfl 0 rfl ?_
      refine cNumLd (pc := 34) hC (K := q) hq i (rfl) (by omega) rfl dX0_isLike_34 ?_
      refine gIcmp_eq (pc := 35) hC (tgt := 40) dX0_isLike_35 (by decide) (fun hc4 => ?_) (fun hc4 => ?_)
      · skip
        refine gIinc (pc := 40) hC (v := (nI (i + 1))) (lv' := [(2, .int (nI (i + 1))), (0, .ref (la L k)), (1, .ref (la L q))]) dX0_isLike_40 (q := 0) rfl (nI_1 _) (by decide) rfl ?_
        refine gGoto (pc := 43) hC (tgt := 15) dX0_isLike_43 (by decide) ?_
        refine gLoc (lv' := [(2, .int (nI (i + 1))), (0, .ref (la L k)), (1, .ref (la L q))]) [0, 1, 2] rfl ?_
        exact ih (()) (⟨trivial, lt_s hI.2 hc4⟩)
      · skip
        refine gIconst (pc := 38) hC (v := (nI 0)) dX0_isLike_38 (by decide +kernel) ?_
        exact gRetZ hC hQ hr (rfl) (Nat.le_of_ble_eq_true rfl) (Nat.le_of_ble_eq_true rfl) dX0_isLike_39 (⟨rfl, nI 0, rfl, Or.inr ⟨rfl, fun h => hc4 (h.2 i hi)⟩⟩)
  · skip
    refine gIconst (pc := 11) hC (v := (nI 0)) dX0_isLike_11 (by decide +kernel) ?_
    exact gRetZ hC hQ hr (rfl) (Nat.le_of_ble_eq_true rfl) (Nat.le_of_ble_eq_true rfl) dX0_isLike_12 (⟨rfl, nI 0, rfl, Or.inr ⟨rfl, fun h => hc1 (hn.symm.trans h.1)⟩⟩)

abbrev rmX0_countZeros : Room := { frames := 0, cells := 0, slots := 0, locals := 0 }
set_option maxRecDepth 100000 in
set_option maxHeartbeats 4000000 in
theorem c_X0_countZeros (l : Launch) (D : va_G) (L : cLay) (σ : cSt) (k n : Nat) (F : Nat → Rg) (hk : k < 10) (hF : rowIs σ k n F) (hnl : n ≤ 16) : gM l yX0_countZeros wsX0_countZeros rmX0_countZeros D (cTy L) (WC L σ) [.ref (la L k)] 0 0 (fun r w => w = WC L σ ∧ r = some (.int (nI (cz F n)))) := by
  refine gM.of (cc := cX0_countZeros) (maxL := 3) (ret := (some .int)) (own := RX0) (by decide) rfl rfl (Nat.le_of_ble_eq_true rfl) rfl ?_
  intro p e s m args below meth c A Q hC hr hnm hQ
  have hin0 : ∀ w ∈ u_ws RX0 TX0 2, w ∈ wsX0_countZeros := by decide +kernel
  have hl9 : Cond.fieldLink RX0 9 "Rootrows$Row" "numbers" "[I" ∈ wsX0_countZeros := by decide +kernel
  have hl15 : Cond.fieldLink RX0 15 "Rootrows$Row" "size" "I" ∈ wsX0_countZeros := by decide +kernel
  refine gIconst (pc := 0) hC (v := (nI 0)) dX0_countZeros_0 (by decide +kernel) ?_
  refine gIstoreN (pc := 1) hC (lv' := [(1, .int (nI 0)), (0, .ref (la L k))]) dX0_countZeros_1 rfl (by decide) rfl ?_
  refine gIconst (pc := 2) hC (v := (nI 0)) dX0_countZeros_2 (by decide +kernel) ?_
  refine gIstoreN (pc := 3) hC (lv' := [(2, .int (nI 0)), (1, .int (nI 0)), (0, .ref (la L k))]) dX0_countZeros_3 rfl (by decide) rfl ?_
  refine gLoc (lv' := [(2, .int (nI 0)), (1, .int (nI 0)), (0, .ref (la L k))]) [0, 1, 2] rfl ?_
  refine loopUp (S := Int32) (fun i ζ => gG p l e rmX0_countZeros s m args below meth c D A 3 0 0 Q (WC L σ) 4 [(2, .int (nI i)), (1, .int ζ), (0, .ref (la L k))] []) (fun i ζ => ζ = nI (cz F i)) n ?_ ?_ 0 ((nI 0)) (by omega) (rfl)
  · intro ζ hI
    revert hI; generalize ζ = c1; intro hI
    refine gIloadN (pc := 4) hC dX0_countZeros_4 rfl 0 rfl ?_
    refine gAloadN (pc := 5) hC dX0_countZeros_5 rfl 2 rfl ?_
    refine cGetSize (pc := 6) hC (K := k) (v := (nI n)) hk hin0 hl15 (hF.1) dX0_countZeros_6 ?_
    refine gIcmp_ge (pc := 9) hC (tgt := 30) dX0_countZeros_9 (by decide) (fun hc1 => ?_) (fun hc1 => absurd (nI_le (Nat.le_refl _) (by omega)) hc1)
    refine gIloadN (pc := 30) hC dX0_countZeros_30 rfl 1 rfl ?_
    exact gRetI hC hQ hr (Nat.le_of_ble_eq_true rfl) (Nat.le_of_ble_eq_true rfl) dX0_countZeros_31 (⟨rfl, by rw [hI]⟩)
  · intro i ζ hi hI ih
    revert hI; generalize ζ = c1; intro hI
    refine gIloadN (pc := 4) hC dX0_countZeros_4 rfl 0 rfl ?_
    refine gAloadN (pc := 5) hC dX0_countZeros_5 rfl 2 rfl ?_
    refine cGetSize (pc := 6) hC (K := k) (v := (nI n)) hk hin0 hl15 (hF.1) dX0_countZeros_6 ?_
    refine gIcmp_ge (pc := 9) hC (tgt := 30) dX0_countZeros_9 (by decide) (fun hc2 => absurd hc2 (nI_ge hi (by omega))) (fun hc2 => ?_)
    refine gAloadN (pc := 12) hC dX0_countZeros_12 rfl 2 rfl ?_
    refine cGetNums (pc := 13) hC (K := k) hk hin0 hl9 dX0_countZeros_13 ?_
    refine gIloadN (pc := 16) hC dX0_countZeros_16 rfl 0 rfl ?_
    refine cNumLd (pc := 17) hC (K := k) (v := (nI (F i).val)) hk i (rfl) (by omega) (hF.2 _ (by omega)) dX0_countZeros_17 ?_
    refine gIf_ne (pc := 18) hC (tgt := 24) dX0_countZeros_18 (by decide) (fun hc3 => ?_) (fun hc3 => ?_)
    · skip
      refine gIinc (pc := 24) hC (v := (nI (i + 1))) (lv' := [(2, .int (nI (i + 1))), (1, .int c1), (0, .ref (la L k))]) dX0_countZeros_24 (q := 0) rfl (nI_1 _) (by decide) rfl ?_
      refine gGoto (pc := 27) hC (tgt := 4) dX0_countZeros_27 (by decide) ?_
      refine gLoc (lv' := [(2, .int (nI (i + 1))), (1, .int c1), (0, .ref (la L k))]) [0, 1, 2] rfl ?_
      exact ih (c1) (by rw [hI, cz_s, if_neg (fun h => hc3 (by rw [h]; rfl))]; rfl)
    · skip
      refine gIinc (pc := 21) hC (v := (nI (cz F i + 1))) (lv' := [(1, .int (nI (cz F i + 1))), (2, .int (nI i)), (0, .ref (la L k))]) dX0_countZeros_21 (q := 1) rfl (by rw [hI]; exact nI_1 _) (by decide) rfl ?_
      refine gIinc (pc := 24) hC (v := (nI (i + 1))) (lv' := [(2, .int (nI (i + 1))), (1, .int (nI (cz F i + 1))), (0, .ref (la L k))]) dX0_countZeros_24 (q := 1) rfl (nI_1 _) (by decide) rfl ?_
      refine gGoto (pc := 27) hC (tgt := 4) dX0_countZeros_27 (by decide) ?_
      refine gLoc (lv' := [(2, .int (nI (i + 1))), (1, .int (nI (cz F i + 1))), (0, .ref (la L k))]) [0, 1, 2] rfl ?_
      exact ih ((nI (cz F i + 1))) (by rw [cz_s, if_pos ((val0 _).mp hc3)])

abbrev rmX0_roundAt : Room := { frames := 0, cells := 0, slots := 0, locals := 0 }
set_option maxRecDepth 100000 in
set_option maxHeartbeats 4000000 in
theorem c_X0_roundAt (l : Launch) (D : va_G) (L : cLay) (σ : cSt) (k n : Nat) (F : Nat → Rg) (x : Int32) (z : Int) (hk : k < 10) (hF : rowIs σ k n F) (hn : okN n) (hz : x.toInt % 4294967296 = z % 4294967296) : gM l yX0_roundAt wsX0_roundAt rmX0_roundAt D (cTy L) (WC L σ) [.ref (la L k), .int x] 0 0 (fun r w => w = WC L σ ∧ r = some (.int (nI (F (ix n z)).val))) := by
  refine gM.of (cc := cX0_roundAt) (maxL := 2) (ret := (some .int)) (own := RX0) (by decide) rfl rfl (Nat.le_of_ble_eq_true rfl) rfl ?_
  intro p e s m args below meth c A Q hC hr hnm hQ
  have hin0 : ∀ w ∈ u_ws RX0 TX0 2, w ∈ wsX0_roundAt := by decide +kernel
  have hl9 : Cond.fieldLink RX0 9 "Rootrows$Row" "numbers" "[I" ∈ wsX0_roundAt := by decide +kernel
  have hl15 : Cond.fieldLink RX0 15 "Rootrows$Row" "size" "I" ∈ wsX0_roundAt := by decide +kernel
  refine gAloadN (pc := 0) hC dX0_roundAt_0 rfl 0 rfl ?_
  refine cGetNums (pc := 1) hC (K := k) hk hin0 hl9 dX0_roundAt_1 ?_
  refine gIloadN (pc := 4) hC dX0_roundAt_4 rfl 1 rfl ?_
  refine gAloadN (pc := 5) hC dX0_roundAt_5 rfl 0 rfl ?_
  refine cGetSize (pc := 6) hC (K := k) (v := (nI n)) hk hin0 hl15 (hF.1) dX0_roundAt_6 ?_
  refine gIconst (pc := 9) hC (v := (nI 1)) dX0_roundAt_9 (by decide +kernel) ?_
  refine gIsub (pc := 10) hC dX0_roundAt_10 rfl ?_
  refine gIand (pc := 11) hC (v := (nI (ix n z))) dX0_roundAt_11 (j_ixN hn x z hz) ?_
  refine cNumLd (pc := 12) hC (K := k) (v := (nI (F (ix n z)).val)) hk (ix n z) (rfl) (Nat.lt_of_lt_of_le (ix_lt hn.pos z) hn.le) (hF.2 _ (ix_lt hn.pos z)) dX0_roundAt_12 ?_
  exact gRetI hC hQ hr (Nat.le_of_ble_eq_true rfl) (Nat.le_of_ble_eq_true rfl) dX0_roundAt_13 (⟨rfl, rfl⟩)
