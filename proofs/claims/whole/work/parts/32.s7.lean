theorem hv_facts {m i : Nat} (hm : 1 ≤ m ∧ m ≤ 4) (hi : i < m) : 2 ^ i < 2 ^ m ∧ okH (2 ^ i) ∧ 2 * (2 ^ m / 2 ^ (i + 1)) * 2 ^ i = 2 ^ m ∧ 2 ^ m / 2 ^ (i + 1) / 2 = 2 ^ m / 2 ^ (i + 1 + 1) ∧ 2 ^ (m - i) = 2 * (2 ^ m / 2 ^ (i + 1)) ∧ hw (2 ^ (i + 1)) (2 ^ (m - (i + 1))) = hw (2 * 2 ^ i) (2 ^ m / 2 ^ (i + 1)) := by
  rcases (show m = 1 ∨ m = 2 ∨ m = 3 ∨ m = 4 by omega) with rfl | rfl | rfl | rfl <;> rcases (show i = 0 ∨ i = 1 ∨ i = 2 ∨ i = 3 by omega) with rfl | rfl | rfl | rfl <;> first | (exfalso; omega) | exact ⟨by decide, by unfold okH; decide, by decide, by decide, by decide, rfl⟩
def okL (n : Nat) : Prop := n = 2 ∨ n = 4 ∨ n = 8 ∨ n = 16
theorem okL.N {n : Nat} (h : okL n) : okN n := by unfold okL at h; unfold okN; omega
theorem okL.pw {n : Nat} (h : okL n) : ∃ m, (1 ≤ m ∧ m ≤ 4) ∧ n = 2 ^ m := by
  rcases h with rfl | rfl | rfl | rfl
  · exact ⟨1, by decide, by decide⟩
  · exact ⟨2, by decide, by decide⟩
  · exact ⟨3, by decide, by decide⟩
  · exact ⟨4, by decide, by decide⟩

abbrev rmX1_halvedValues : Room := { frames := 3, cells := 0, slots := 0, locals := 81 }
set_option maxRecDepth 100000 in
set_option maxHeartbeats 4000000 in
theorem c_X1_halvedValues (l : Launch) (D : va_G) (L : cLay) (σ : cSt) (i0 k μ o : Nat) (F : Nat → Rg) (hk : k < 10) (hi0 : i0 < 10) (hne : i0 ≠ k) (hn9 : i0 ≠ 9) (hk9 : k ≠ 9) (hF : rowIs σ i0 (2 ^ μ) F) (hm2 : 1 ≤ μ ∧ μ ≤ 4) (hodd : σ.1 = nI o) (hoo : okO o) : gM l yX1_halvedValues wsX1_halvedValues rmX1_halvedValues D (cTy L) (WC L σ) [.ref (lx L), .ref (la L i0), .ref (la L k)] 0 0 (fun r w => r = none ∧ ∃ σ', w = WC L σ' ∧ cKeep σ σ' (fun q => q ≠ k ∧ q ≠ 9) ∧ rowIs σ' k (2 ^ μ) (ps (2 ^ μ) (un o (2 ^ μ)) 1 F)) := by
  refine gM.of (cc := cX1_halvedValues) (maxL := 5) (ret := none) (own := RX1) (by decide) rfl rfl (Nat.le_of_ble_eq_true rfl) rfl ?_
  intro p e s m args below meth c A Q hC hr hnm hQ
  have hin0 : ∀ w ∈ u_ws RX0 TX0 2, w ∈ wsX1_halvedValues := by decide +kernel
  have hin1 : ∀ w ∈ u_ws RX1 TX1 8, w ∈ wsX1_halvedValues := by decide +kernel
  have hl32 : Cond.fieldLink RX1 32 "Rootrows" "parts" "LRootrows$Row;" ∈ wsX1_halvedValues := by decide +kernel
  have hl47 : Cond.fieldLink RX1 47 "Rootrows$Row" "size" "I" ∈ wsX1_halvedValues := by decide +kernel
  have hm1 : 2 ^ μ ≤ 16 := by rcases (show μ = 1 ∨ μ = 2 ∨ μ = 3 ∨ μ = 4 by omega) with rfl | rfl | rfl | rfl <;> decide
  refine gAloadN (pc := 0) hC dX1_halvedValues_0 rfl 2 rfl ?_
  refine gAloadN (pc := 1) hC dX1_halvedValues_1 rfl 1 rfl ?_
  refine gV (pc := 2) (rest := []) (ci := 0) (q0 := 2 + 2 * k) hC (c_X0_take l D L σ k i0 hk hi0) rfl (wc_row hk) (cwV 1 hC.2.2.2.2.1 gX1_halvedValues_X0_take rfl rfl rfl (by decide +kernel) ⟨Nat.le_of_ble_eq_true rfl, Nat.le_of_ble_eq_true rfl⟩) rfl rfl (Nat.le_of_ble_eq_true rfl) dX1_halvedValues_2 ⟨Nat.le_of_ble_eq_true rfl, Nat.le_of_ble_eq_true rfl⟩ (fun v w1 hp => ?_)
  obtain ⟨rfl, σ', rfl, h1, h2, h3⟩ := hp
  refine gStk (st' := []) (pc' := 5) rfl rfl ?_
  have hF1 := hF.kept h1 hne
  have hK1 : rowIs σ' k (2 ^ μ) F := ⟨h2.trans hF.1, fun j hj => (h3 j (by omega)).trans (hF.2 j hj)⟩
  refine gAloadN (pc := 5) hC dX1_halvedValues_5 rfl 1 rfl ?_
  refine cGetSize (pc := 6) hC (K := i0) (v := (nI (2 ^ μ))) hi0 hin0 hl47 (hF1.1) dX1_halvedValues_6 ?_
  refine gIconst (pc := 9) hC (v := (nI 2)) dX1_halvedValues_9 (by decide +kernel) ?_
  refine gIdiv (pc := 10) hC (v := (nI (2 ^ μ / 2))) dX1_halvedValues_10 (by decide) (pk_div (by omega) (by decide) (by decide)) ?_
  refine gIstoreN (pc := 11) hC (lv' := [(3, .int (nI (2 ^ μ / 2))), (0, .ref (lx L)), (1, .ref (la L i0)), (2, .ref (la L k))]) dX1_halvedValues_11 rfl (by decide) rfl ?_
  refine gIconst (pc := 12) hC (v := (nI 1)) dX1_halvedValues_12 (by decide +kernel) ?_
  refine gIstore (pc := 13) hC (lv' := [(4, .int (nI 1)), (3, .int (nI (2 ^ μ / 2))), (0, .ref (lx L)), (1, .ref (la L i0)), (2, .ref (la L k))]) dX1_halvedValues_13 (by decide) rfl ?_
  refine gLoc (lv' := [(4, .int (nI (2 ^ 0))), (3, .int (nI (2 ^ μ / 2 ^ (0 + 1)))), (0, .ref (lx L)), (1, .ref (la L i0)), (2, .ref (la L k))]) [0, 1, 2, 3, 4] rfl ?_
  refine loopUp (S := cSt) (fun i ζ => gG p l e rmX1_halvedValues s m args below meth c D A 5 0 0 Q (WC L ζ) 15 [(4, .int (nI (2 ^ i))), (3, .int (nI (2 ^ μ / 2 ^ (i + 1)))), (0, .ref (lx L)), (1, .ref (la L i0)), (2, .ref (la L k))] []) (fun i ζ => cKeep σ ζ (fun q => q ≠ k ∧ q ≠ 9) ∧ rowIs ζ k (2 ^ μ) (hw (2 ^ i) (2 ^ (μ - i)) o F)) μ ?_ ?_ 0 (σ') (by omega) (⟨cKeep.of h1 (fun q hq => hq.1), hK1.cong (fun j _ => (hw_1 _ o F j).symm)⟩)
  · intro ζ hI
    revert hI; generalize ζ = σ1; intro hI
    refine gIload (pc := 15) hC dX1_halvedValues_15 0 rfl ?_
    refine gAloadN (pc := 17) hC dX1_halvedValues_17 rfl 3 rfl ?_
    refine cGetSize (pc := 18) hC (K := i0) (v := (nI (2 ^ μ))) hi0 hin0 hl47 ((hF.eq (hI.1.2 i0 ⟨hne, hn9⟩)).1) dX1_halvedValues_18 ?_
    refine gIcmp_ge (pc := 21) hC (tgt := 53) dX1_halvedValues_21 (by decide) (fun hc1 => ?_) (fun hc1 => absurd (nI_le (Nat.le_refl _) (by omega)) hc1)
    exact gRetV hC hQ hr (Nat.le_of_ble_eq_true rfl) (Nat.le_of_ble_eq_true rfl) dX1_halvedValues_53 (⟨rfl, σ1, rfl, hI.1, hI.2.cong (fun j hj => by rw [Nat.sub_self]; exact hw_n F hj)⟩)
  · intro i ζ hi hI ih
    revert hI; generalize ζ = σ1; intro hI
    have hr1 := hF.eq (hI.1.2 i0 ⟨hne, hn9⟩)
    obtain ⟨a1, a2, a3, a4, a5, a6⟩ := hv_facts hm2 hi
    refine gIload (pc := 15) hC dX1_halvedValues_15 0 rfl ?_
    refine gAloadN (pc := 17) hC dX1_halvedValues_17 rfl 3 rfl ?_
    refine cGetSize (pc := 18) hC (K := i0) (v := (nI (2 ^ μ))) hi0 hin0 hl47 (hr1.1) dX1_halvedValues_18 ?_
    refine gIcmp_ge (pc := 21) hC (tgt := 53) dX1_halvedValues_21 (by decide) (fun hc2 => absurd hc2 (nI_ge a1 (by omega))) (fun hc2 => ?_)
    refine gAloadN (pc := 24) hC dX1_halvedValues_24 rfl 2 rfl ?_
    refine cGetRow (pc := 25) hC 6 (by decide) rfl hin1 hl32 dX1_halvedValues_25 ?_
    refine gAloadN (pc := 28) hC dX1_halvedValues_28 rfl 4 rfl ?_
    refine gV (pc := 29) (rest := []) (ci := 0) (q0 := 2 + 2 * 9) hC (c_X0_take l D L σ1 9 k (by decide) hk) rfl (wc_row (by decide)) (cwV 1 hC.2.2.2.2.1 gX1_halvedValues_X0_take rfl rfl rfl (by decide +kernel) ⟨Nat.le_of_ble_eq_true rfl, Nat.le_of_ble_eq_true rfl⟩) rfl rfl (Nat.le_of_ble_eq_true rfl) dX1_halvedValues_29 ⟨Nat.le_of_ble_eq_true rfl, Nat.le_of_ble_eq_true rfl⟩ (fun v w1 hp => ?_)
    obtain ⟨rfl, σ2, rfl, g1, g2, g3⟩ := hp
    refine gStk (st' := []) (pc' := 32) rfl rfl ?_
    have hP : rowIs σ2 9 (2 ^ μ) (hw (2 ^ i) (2 ^ (μ - i)) o F) := ⟨g2.trans hI.2.1, fun j hj => (g3 j (by omega)).trans (hI.2.2 j hj)⟩
    refine gAloadN (pc := 32) hC dX1_halvedValues_32 rfl 2 rfl ?_
    refine gIload (pc := 33) hC dX1_halvedValues_33 0 rfl ?_
    refine gIloadN (pc := 35) hC dX1_halvedValues_35 rfl 1 rfl ?_
    refine gAloadN (pc := 36) hC dX1_halvedValues_36 rfl 4 rfl ?_
    refine gV (pc := 37) (rest := []) (ci := 1) (q0 := 0) hC (c_X1_joinParts l D L σ2 (2 ^ i) (2 ^ μ / 2 ^ (i + 1)) k (2 ^ μ) o (hw (2 ^ i) (2 ^ (μ - i)) o F) hk (fun h => hk9 h.symm) hP ((g1.2 k hk9).1.trans hI.2.1) a2 a3 hm1 (g1.1.trans (hI.1.1.trans hodd))) rfl rfl (cwV 3 hC.2.2.2.2.1 gX1_halvedValues_X1_joinParts rfl rfl rfl (by decide +kernel) ⟨Nat.le_of_ble_eq_true rfl, Nat.le_of_ble_eq_true rfl⟩) rfl rfl (Nat.le_of_ble_eq_true rfl) dX1_halvedValues_37 ⟨Nat.le_of_ble_eq_true rfl, Nat.le_of_ble_eq_true rfl⟩ (fun v w1 hp => ?_)
    obtain ⟨rfl, σ3, rfl, g4, g5⟩ := hp
    refine gStk (st' := []) (pc' := 40) rfl rfl ?_
    refine gIloadN (pc := 40) hC dX1_halvedValues_40 rfl 1 rfl ?_
    refine gIconst (pc := 41) hC (v := (nI 2)) dX1_halvedValues_41 (by decide +kernel) ?_
    refine gIdiv (pc := 42) hC (v := (nI (2 ^ μ / 2 ^ (i + 1 + 1)))) dX1_halvedValues_42 (by decide) (by rw [pk_div (Nat.lt_of_le_of_lt (Nat.div_le_self _ _) (by omega)) (by decide) (by decide), a4]) ?_
    refine gIstoreN (pc := 43) hC (lv' := [(3, .int (nI (2 ^ μ / 2 ^ (i + 1 + 1)))), (4, .int (nI (2 ^ i))), (0, .ref (lx L)), (1, .ref (la L i0)), (2, .ref (la L k))]) dX1_halvedValues_43 rfl (by decide) rfl ?_
    refine gIload (pc := 44) hC dX1_halvedValues_44 1 rfl ?_
    refine gIconst (pc := 46) hC (v := (nI 2)) dX1_halvedValues_46 (by decide +kernel) ?_
    refine gImul (pc := 47) hC (v := (nI (2 ^ (i + 1)))) dX1_halvedValues_47 (pk_mul _ _) ?_
    refine gIstore (pc := 48) hC (lv' := [(4, .int (nI (2 ^ (i + 1)))), (3, .int (nI (2 ^ μ / 2 ^ (i + 1 + 1)))), (0, .ref (lx L)), (1, .ref (la L i0)), (2, .ref (la L k))]) dX1_halvedValues_48 (by decide) rfl ?_
    refine gGoto (pc := 50) hC (tgt := 15) dX1_halvedValues_50 (by decide) ?_
    refine gLoc (lv' := [(4, .int (nI (2 ^ (i + 1)))), (3, .int (nI (2 ^ μ / 2 ^ ((i + 1) + 1)))), (0, .ref (lx L)), (1, .ref (la L i0)), (2, .ref (la L k))]) [0, 1, 2, 3, 4] rfl ?_
    exact ih (σ3) (⟨(hI.1.tr (cKeep.of g1 (fun q hq => hq.2))).tr (cKeep.of g4 (fun q hq => hq.1)), g5.cong (fun j _ => by rw [a5, a6]; exact hw_s hoo a2 F j)⟩)

abbrev rmX1_productByValues : Room := { frames := 4, cells := 0, slots := 0, locals := 105 }
set_option maxRecDepth 100000 in
set_option maxHeartbeats 4000000 in
theorem c_X1_productByValues (l : Launch) (D : va_G) (L : cLay) (σ : cSt) (i0 j0 n o : Nat) (F G : Nat → Rg) (hi0 : i0 < 4) (hj0 : j0 < 4) (hF : rowIs σ i0 n F) (hG : rowIs σ j0 n G) (hn : okL n) (hodd : σ.1 = nI o) (hoo : okO o) : gM l yX1_productByValues wsX1_productByValues rmX1_productByValues D (cTy L) (WC L σ) [.ref (lx L), .ref (la L i0), .ref (la L j0), .ref (la L 8)] 0 0 (fun r w => r = none ∧ ∃ σ', w = WC L σ' ∧ cKeep σ σ' (fun q => q < 4) ∧ rowIs σ' 8 n (rp n F G)) := by
  refine gM.of (cc := cX1_productByValues) (maxL := 4) (ret := none) (own := RX1) (by decide) rfl rfl (Nat.le_of_ble_eq_true rfl) rfl ?_
  intro p e s m args below meth c A Q hC hr hnm hQ
  have hin1 : ∀ w ∈ u_ws RX1 TX1 8, w ∈ wsX1_productByValues := by decide +kernel
  have hl16 : Cond.fieldLink RX1 16 "Rootrows" "left" "LRootrows$Row;" ∈ wsX1_productByValues := by decide +kernel
  have hl20 : Cond.fieldLink RX1 20 "Rootrows" "right" "LRootrows$Row;" ∈ wsX1_productByValues := by decide +kernel
  have hl23 : Cond.fieldLink RX1 23 "Rootrows" "mixed" "LRootrows$Row;" ∈ wsX1_productByValues := by decide +kernel
  obtain ⟨μ, hm, rfl⟩ := hn.pw
  refine gAloadN (pc := 0) hC dX1_productByValues_0 rfl 0 rfl ?_
  refine gAloadN (pc := 1) hC dX1_productByValues_1 rfl 1 rfl ?_
  refine gAloadN (pc := 2) hC dX1_productByValues_2 rfl 0 rfl ?_
  refine cGetRow (pc := 3) hC 1 (by decide) rfl hin1 hl16 dX1_productByValues_3 ?_
  refine gV (pc := 6) (rest := []) (ci := 1) (q0 := 0) hC (c_X1_halvedValues l D L σ i0 4 μ o F (by decide) (by omega) (by omega) (by omega) (by decide) hF hm hodd hoo) rfl rfl (cwV 2 hC.2.2.2.2.1 gX1_productByValues_X1_halvedValues rfl rfl rfl (by decide +kernel) ⟨Nat.le_of_ble_eq_true rfl, Nat.le_of_ble_eq_true rfl⟩) rfl rfl (Nat.le_of_ble_eq_true rfl) dX1_productByValues_6 ⟨Nat.le_of_ble_eq_true rfl, Nat.le_of_ble_eq_true rfl⟩ (fun v w1 hp => ?_)
  obtain ⟨rfl, τ1, rfl, k1, f1⟩ := hp
  refine gStk (st' := []) (pc' := 9) rfl rfl ?_
  refine gAloadN (pc := 9) hC dX1_productByValues_9 rfl 0 rfl ?_
  refine gAloadN (pc := 10) hC dX1_productByValues_10 rfl 2 rfl ?_
  refine gAloadN (pc := 11) hC dX1_productByValues_11 rfl 0 rfl ?_
  refine cGetRow (pc := 12) hC 2 (by decide) rfl hin1 hl20 dX1_productByValues_12 ?_
  refine gV (pc := 15) (rest := []) (ci := 1) (q0 := 0) hC (c_X1_halvedValues l D L τ1 j0 5 μ o G (by decide) (by omega) (by omega) (by omega) (by decide) (hG.eq (k1.2 j0 ⟨by omega, by omega⟩)) hm (k1.1.trans hodd) hoo) rfl rfl (cwV 2 hC.2.2.2.2.1 gX1_productByValues_X1_halvedValues rfl rfl rfl (by decide +kernel) ⟨Nat.le_of_ble_eq_true rfl, Nat.le_of_ble_eq_true rfl⟩) rfl rfl (Nat.le_of_ble_eq_true rfl) dX1_productByValues_15 ⟨Nat.le_of_ble_eq_true rfl, Nat.le_of_ble_eq_true rfl⟩ (fun v w1 hp => ?_)
  obtain ⟨rfl, τ2, rfl, k2, f2⟩ := hp
  refine gStk (st' := []) (pc' := 18) rfl rfl ?_
  refine gAloadN (pc := 18) hC dX1_productByValues_18 rfl 0 rfl ?_
  refine cGetRow (pc := 19) hC 3 (by decide) rfl hin1 hl23 dX1_productByValues_19 ?_
  refine gAloadN (pc := 22) hC dX1_productByValues_22 rfl 0 rfl ?_
  refine cGetRow (pc := 23) hC 1 (by decide) rfl hin1 hl16 dX1_productByValues_23 ?_
  refine gAloadN (pc := 26) hC dX1_productByValues_26 rfl 0 rfl ?_
  refine cGetRow (pc := 27) hC 2 (by decide) rfl hin1 hl20 dX1_productByValues_27 ?_
  refine gV (pc := 30) (rest := []) (ci := 0) (q0 := 2 + 2 * 6) hC (c_X0_becomeProducts l D L τ2 6 4 5 (2 ^ μ) (ps (2 ^ μ) (un o (2 ^ μ)) 1 F) (ps (2 ^ μ) (un o (2 ^ μ)) 1 G) (by decide) (by decide) (by decide) (f1.eq (k2.2 4 (by decide))) f2 hn.N) rfl (wc_row (by decide)) (cwV 2 hC.2.2.2.2.1 gX1_productByValues_X0_becomeProducts rfl rfl rfl (by decide +kernel) ⟨Nat.le_of_ble_eq_true rfl, Nat.le_of_ble_eq_true rfl⟩) rfl rfl (Nat.le_of_ble_eq_true rfl) dX1_productByValues_30 ⟨Nat.le_of_ble_eq_true rfl, Nat.le_of_ble_eq_true rfl⟩ (fun v w1 hp => ?_)
  obtain ⟨rfl, τ3, rfl, k3, f3⟩ := hp
  refine gStk (st' := []) (pc' := 33) rfl rfl ?_
  refine gAloadN (pc := 33) hC dX1_productByValues_33 rfl 0 rfl ?_
  refine gAloadN (pc := 34) hC dX1_productByValues_34 rfl 0 rfl ?_
  refine cGetRow (pc := 35) hC 3 (by decide) rfl hin1 hl23 dX1_productByValues_35 ?_
  refine gAloadN (pc := 38) hC dX1_productByValues_38 rfl 3 rfl ?_
  refine gV (pc := 39) (rest := []) (ci := 1) (q0 := 0) hC (c_X1_backRow l D L τ3 6 8 (2 ^ μ) o (fun i => ps (2 ^ μ) (un o (2 ^ μ)) 1 F i * ps (2 ^ μ) (un o (2 ^ μ)) 1 G i) (by decide) (by decide) (by decide) f3 hn.N (k3.1.trans (k2.1.trans (k1.1.trans hodd)))) rfl rfl (cwV 2 hC.2.2.2.2.1 gX1_productByValues_X1_backRow rfl rfl rfl (by decide +kernel) ⟨Nat.le_of_ble_eq_true rfl, Nat.le_of_ble_eq_true rfl⟩) rfl rfl (Nat.le_of_ble_eq_true rfl) dX1_productByValues_39 ⟨Nat.le_of_ble_eq_true rfl, Nat.le_of_ble_eq_true rfl⟩ (fun v w1 hp => ?_)
  obtain ⟨rfl, τ4, rfl, k4, f4⟩ := hp
  refine gStk (st' := []) (pc' := 42) rfl rfl ?_
  exact gRetV hC hQ hr (Nat.le_of_ble_eq_true rfl) (Nat.le_of_ble_eq_true rfl) dX1_productByValues_42 (⟨rfl, τ4, rfl, (((k1.sub (P' := fun q => q < 4) (fun q hq => by omega)).tr (k2.sub (fun q hq => by omega))).tr (cKeep.of k3 (fun q hq => by omega))).tr (cKeep.of k4 (fun q hq => by omega)), f4.cong (fun j hj => bk_prod hoo hn.N F G hj)⟩)
