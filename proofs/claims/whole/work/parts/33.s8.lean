theorem like_of {σ : cSt} {k q n : Nat} {F G : Nat → Rg} (h1 : rowIs σ k n F) (h2 : rowIs σ q n G) (h : ∀ j, j < n → F j = G j) : σ.2.1 k = σ.2.1 q ∧ ∀ j, j < n → σ.2.2 k j = σ.2.2 q j := ⟨h1.1.trans h2.1.symm, fun j hj => by rw [h1.2 j hj, h2.2 j hj, h j hj]⟩
theorem okL.two {n : Nat} (h : okL n) : ∃ a, okH a ∧ n = 2 * a := by
  rcases h with rfl | rfl | rfl | rfl
  · exact ⟨1, by unfold okH; decide, rfl⟩
  · exact ⟨2, by unfold okH; decide, rfl⟩
  · exact ⟨4, by unfold okH; decide, rfl⟩
  · exact ⟨8, by unfold okH; decide, rfl⟩
theorem okL.le {n : Nat} (h : okL n) : n ≤ 16 := h.N.le

abbrev rmX1_holdsHalving : Room := { frames := 4, cells := 0, slots := 0, locals := 93 }
set_option maxRecDepth 100000 in
set_option maxHeartbeats 4000000 in
theorem c_X1_holdsHalving (l : Launch) (D : va_G) (L : cLay) (σ : cSt) (i0 n o : Nat) (F : Nat → Rg) (hi0 : i0 < 4) (hF : rowIs σ i0 n F) (hn : okL n) (hodd : σ.1 = nI o) (hoo : okO o) : gM l yX1_holdsHalving wsX1_holdsHalving rmX1_holdsHalving D (cTy L) (WC L σ) [.ref (lx L), .ref (la L i0)] 0 0 (fun r w => r = some (.int (nI 1)) ∧ ∃ σ', w = WC L σ' ∧ cKeep σ σ' (fun q => q < 4)) := by
  refine gM.of (cc := cX1_holdsHalving) (maxL := 5) (ret := (some .boolean)) (own := RX1) (by decide) rfl rfl (Nat.le_of_ble_eq_true rfl) rfl ?_
  intro p e s m args below meth c A Q hC hr hnm hQ
  have hin0 : ∀ w ∈ u_ws RX0 TX0 2, w ∈ wsX1_holdsHalving := by decide +kernel
  have hin1 : ∀ w ∈ u_ws RX1 TX1 8, w ∈ wsX1_holdsHalving := by decide +kernel
  have hl16 : Cond.fieldLink RX1 16 "Rootrows" "left" "LRootrows$Row;" ∈ wsX1_holdsHalving := by decide +kernel
  have hl20 : Cond.fieldLink RX1 20 "Rootrows" "right" "LRootrows$Row;" ∈ wsX1_holdsHalving := by decide +kernel
  have hl23 : Cond.fieldLink RX1 23 "Rootrows" "mixed" "LRootrows$Row;" ∈ wsX1_holdsHalving := by decide +kernel
  have hl26 : Cond.fieldLink RX1 26 "Rootrows" "wanted" "LRootrows$Row;" ∈ wsX1_holdsHalving := by decide +kernel
  have hl29 : Cond.fieldLink RX1 29 "Rootrows" "found" "LRootrows$Row;" ∈ wsX1_holdsHalving := by decide +kernel
  have hl47 : Cond.fieldLink RX1 47 "Rootrows$Row" "size" "I" ∈ wsX1_holdsHalving := by decide +kernel
  have hl60 : Cond.fieldLink RX1 60 "Rootrows$Row" "numbers" "[I" ∈ wsX1_holdsHalving := by decide +kernel
  obtain ⟨a, ha, rfl⟩ := hn.two
  have hN := hn.N
  have hL := hn.le
  have ha8 : a ≤ 8 := by omega
  refine gAloadN (pc := 0) hC dX1_holdsHalving_0 rfl 1 rfl ?_
  refine cGetSize (pc := 1) hC (K := i0) (v := (nI (2 * a))) (by omega) hin0 hl47 (hF.1) dX1_holdsHalving_1 ?_
  refine gIconst (pc := 4) hC (v := (nI 2)) dX1_holdsHalving_4 (by decide +kernel) ?_
  refine gIdiv (pc := 5) hC (v := (nI a)) dX1_holdsHalving_5 (by decide) (by rw [pk_div (by omega) (by decide) (by decide)]; exact congrArg nI (by omega)) ?_
  refine gIstoreN (pc := 6) hC (lv' := [(2, .int (nI a)), (0, .ref (lx L)), (1, .ref (la L i0))]) dX1_holdsHalving_6 rfl (by decide) rfl ?_
  refine gAloadN (pc := 7) hC dX1_holdsHalving_7 rfl 1 rfl ?_
  refine cGetRow (pc := 8) hC 1 (by decide) rfl hin1 hl16 dX1_holdsHalving_8 ?_
  refine gAloadN (pc := 11) hC dX1_holdsHalving_11 rfl 2 rfl ?_
  refine gIconst (pc := 12) hC (v := (nI 0)) dX1_holdsHalving_12 (by decide +kernel) ?_
  refine gV (pc := 13) (rest := []) (ci := 0) (q0 := 2 + 2 * 4) hC (c_X0_becomeEverySecond l D L σ 4 i0 a 0 F (by decide) (by omega) (by omega) hF ha8 (by decide)) rfl (wc_row (by decide)) (cwV 2 hC.2.2.2.2.1 gX1_holdsHalving_X0_becomeEverySecond rfl rfl rfl (by decide +kernel) ⟨Nat.le_of_ble_eq_true rfl, Nat.le_of_ble_eq_true rfl⟩) rfl rfl (Nat.le_of_ble_eq_true rfl) dX1_holdsHalving_13 ⟨Nat.le_of_ble_eq_true rfl, Nat.le_of_ble_eq_true rfl⟩ (fun v w1 hp => ?_)
  obtain ⟨rfl, τ1, rfl, k1, f1⟩ := hp
  refine gStk (st' := []) (pc' := 16) rfl rfl ?_
  refine gAloadN (pc := 16) hC dX1_holdsHalving_16 rfl 1 rfl ?_
  refine cGetRow (pc := 17) hC 2 (by decide) rfl hin1 hl20 dX1_holdsHalving_17 ?_
  refine gAloadN (pc := 20) hC dX1_holdsHalving_20 rfl 2 rfl ?_
  refine gIconst (pc := 21) hC (v := (nI 1)) dX1_holdsHalving_21 (by decide +kernel) ?_
  refine gV (pc := 22) (rest := []) (ci := 0) (q0 := 2 + 2 * 5) hC (c_X0_becomeEverySecond l D L τ1 5 i0 a 1 F (by decide) (by omega) (by omega) (hF.kept k1 (by omega)) ha8 (by decide)) rfl (wc_row (by decide)) (cwV 2 hC.2.2.2.2.1 gX1_holdsHalving_X0_becomeEverySecond rfl rfl rfl (by decide +kernel) ⟨Nat.le_of_ble_eq_true rfl, Nat.le_of_ble_eq_true rfl⟩) rfl rfl (Nat.le_of_ble_eq_true rfl) dX1_holdsHalving_22 ⟨Nat.le_of_ble_eq_true rfl, Nat.le_of_ble_eq_true rfl⟩ (fun v w1 hp => ?_)
  obtain ⟨rfl, τ2, rfl, k2, f2⟩ := hp
  refine gStk (st' := []) (pc' := 25) rfl rfl ?_
  refine gAloadN (pc := 25) hC dX1_holdsHalving_25 rfl 1 rfl ?_
  refine gAloadN (pc := 26) hC dX1_holdsHalving_26 rfl 1 rfl ?_
  refine cGetRow (pc := 27) hC 1 (by decide) rfl hin1 hl16 dX1_holdsHalving_27 ?_
  refine gAloadN (pc := 30) hC dX1_holdsHalving_30 rfl 1 rfl ?_
  refine cGetRow (pc := 31) hC 3 (by decide) rfl hin1 hl23 dX1_holdsHalving_31 ?_
  refine gV (pc := 34) (rest := []) (ci := 1) (q0 := 0) hC (c_X1_plainValues l D L τ2 4 6 a o (fun i => F (2 * i + 0)) (by decide) (by decide) (by decide) (f1.kept k2 (by decide)) ha.N (k2.1.trans (k1.1.trans hodd))) rfl rfl (cwV 2 hC.2.2.2.2.1 gX1_holdsHalving_X1_plainValues rfl rfl rfl (by decide +kernel) ⟨Nat.le_of_ble_eq_true rfl, Nat.le_of_ble_eq_true rfl⟩) rfl rfl (Nat.le_of_ble_eq_true rfl) dX1_holdsHalving_34 ⟨Nat.le_of_ble_eq_true rfl, Nat.le_of_ble_eq_true rfl⟩ (fun v w1 hp => ?_)
  obtain ⟨rfl, τ3, rfl, k3, f3⟩ := hp
  refine gStk (st' := []) (pc' := 37) rfl rfl ?_
  refine gAloadN (pc := 37) hC dX1_holdsHalving_37 rfl 1 rfl ?_
  refine gAloadN (pc := 38) hC dX1_holdsHalving_38 rfl 1 rfl ?_
  refine cGetRow (pc := 39) hC 2 (by decide) rfl hin1 hl20 dX1_holdsHalving_39 ?_
  refine gAloadN (pc := 42) hC dX1_holdsHalving_42 rfl 1 rfl ?_
  refine cGetRow (pc := 43) hC 4 (by decide) rfl hin1 hl26 dX1_holdsHalving_43 ?_
  refine gV (pc := 46) (rest := []) (ci := 1) (q0 := 0) hC (c_X1_plainValues l D L τ3 5 7 a o (fun i => F (2 * i + 1)) (by decide) (by decide) (by decide) (f2.kept k3 (by decide)) ha.N (k3.1.trans (k2.1.trans (k1.1.trans hodd)))) rfl rfl (cwV 2 hC.2.2.2.2.1 gX1_holdsHalving_X1_plainValues rfl rfl rfl (by decide +kernel) ⟨Nat.le_of_ble_eq_true rfl, Nat.le_of_ble_eq_true rfl⟩) rfl rfl (Nat.le_of_ble_eq_true rfl) dX1_holdsHalving_46 ⟨Nat.le_of_ble_eq_true rfl, Nat.le_of_ble_eq_true rfl⟩ (fun v w1 hp => ?_)
  obtain ⟨rfl, τ4, rfl, k4, f4⟩ := hp
  refine gStk (st' := []) (pc' := 49) rfl rfl ?_
  refine gAloadN (pc := 49) hC dX1_holdsHalving_49 rfl 1 rfl ?_
  refine gAloadN (pc := 50) hC dX1_holdsHalving_50 rfl 2 rfl ?_
  refine gAloadN (pc := 51) hC dX1_holdsHalving_51 rfl 1 rfl ?_
  refine cGetRow (pc := 52) hC 5 (by decide) rfl hin1 hl29 dX1_holdsHalving_52 ?_
  refine gV (pc := 55) (rest := []) (ci := 1) (q0 := 0) hC (c_X1_plainValues l D L τ4 i0 8 (2 * a) o F (by decide) (by omega) (by omega) ((((hF.kept k1 (by omega)).kept k2 (by omega)).kept k3 (by omega)).kept k4 (by omega)) hN (k4.1.trans (k3.1.trans (k2.1.trans (k1.1.trans hodd))))) rfl rfl (cwV 2 hC.2.2.2.2.1 gX1_holdsHalving_X1_plainValues rfl rfl rfl (by decide +kernel) ⟨Nat.le_of_ble_eq_true rfl, Nat.le_of_ble_eq_true rfl⟩) rfl rfl (Nat.le_of_ble_eq_true rfl) dX1_holdsHalving_55 ⟨Nat.le_of_ble_eq_true rfl, Nat.le_of_ble_eq_true rfl⟩ (fun v w1 hp => ?_)
  obtain ⟨rfl, τ5, rfl, k5, f5⟩ := hp
  refine gStk (st' := []) (pc' := 58) rfl rfl ?_
  have r6 := ((f3.kept k4 (by decide)).kept k5 (by decide))
  have r7 := (f4.kept k5 (by decide))
  have r8 := f5
  have r0 := (((((hF.kept k1 (by omega)).kept k2 (by omega)).kept k3 (by omega)).kept k4 (by omega)).kept k5 (by omega))
  have ho2 := (k5.1.trans (k4.1.trans (k3.1.trans (k2.1.trans (k1.1.trans hodd)))))
  refine gIconst (pc := 58) hC (v := (nI 0)) dX1_holdsHalving_58 (by decide +kernel) ?_
  refine gIstoreN (pc := 59) hC (lv' := [(3, .int (nI 0)), (2, .int (nI a)), (0, .ref (lx L)), (1, .ref (la L i0))]) dX1_holdsHalving_59 rfl (by decide) rfl ?_
  refine gLoc (lv' := [(3, .int (nI 0)), (0, .ref (lx L)), (1, .ref (la L i0)), (2, .int (nI a))]) [0, 2, 3, 1] rfl ?_
  refine loopUp (S := Unit) (fun i ζ => gG p l e rmX1_holdsHalving s m args below meth c D A 5 0 0 Q (WC L τ5) 60 [(3, .int (nI i)), (0, .ref (lx L)), (1, .ref (la L i0)), (2, .int (nI a))] []) (fun i ζ => True) a ?_ ?_ 0 (()) (by omega) (trivial)
  · intro ζ hI
    revert hI; generalize ζ = uu; intro hI
    refine gIloadN (pc := 60) hC dX1_holdsHalving_60 rfl 0 rfl ?_
    refine gIloadN (pc := 61) hC dX1_holdsHalving_61 rfl 3 rfl ?_
    refine gIcmp_ge (pc := 62) hC (tgt := 150) dX1_holdsHalving_62 (by decide) (fun hc1 => ?_) (fun hc1 => absurd (nI_le (Nat.le_refl _) (by omega)) hc1)
    refine gIconst (pc := 150) hC (v := (nI 1)) dX1_holdsHalving_150 (by decide +kernel) ?_
    exact gRetZ hC hQ hr (rfl) (Nat.le_of_ble_eq_true rfl) (Nat.le_of_ble_eq_true rfl) dX1_holdsHalving_151 (⟨rfl, τ5, rfl, ((((((cKeep.rf σ _).tr (cKeep.of k1 (fun q hq => by omega) : cKeep _ _ (fun q => q < 4))).tr (cKeep.of k2 (fun q hq => by omega) : cKeep _ _ (fun q => q < 4))).tr (cKeep.of k3 (fun q hq => by omega) : cKeep _ _ (fun q => q < 4))).tr (cKeep.of k4 (fun q hq => by omega) : cKeep _ _ (fun q => q < 4))).tr (cKeep.of k5 (fun q hq => by omega) : cKeep _ _ (fun q => q < 4)))⟩)
  · intro i ζ hi hI ih
    revert hI; generalize ζ = uu; intro hI
    refine gIloadN (pc := 60) hC dX1_holdsHalving_60 rfl 0 rfl ?_
    refine gIloadN (pc := 61) hC dX1_holdsHalving_61 rfl 3 rfl ?_
    refine gIcmp_ge (pc := 62) hC (tgt := 150) dX1_holdsHalving_62 (by decide) (fun hc2 => absurd hc2 (nI_ge hi (by omega))) (fun hc2 => ?_)
    refine gAloadN (pc := 65) hC dX1_holdsHalving_65 rfl 1 rfl ?_
    refine cGetRow (pc := 66) hC 4 (by decide) rfl hin1 hl26 dX1_holdsHalving_66 ?_
    refine cGetNums (pc := 69) hC (K := 7) (by decide) hin0 hl60 dX1_holdsHalving_69 ?_
    refine gIloadN (pc := 72) hC dX1_holdsHalving_72 rfl 0 rfl ?_
    refine cNumLd (pc := 73) hC (K := 7) (v := (nI ((ps a (un o a) 1 (fun i => F (2 * i + 1))) i).val)) (by decide) i (rfl) (by omega) (r7.2 _ (by omega)) dX1_holdsHalving_73 ?_
    refine gAloadN (pc := 74) hC dX1_holdsHalving_74 rfl 1 rfl ?_
    refine gAloadN (pc := 75) hC dX1_holdsHalving_75 rfl 2 rfl ?_
    refine cGetSize (pc := 76) hC (K := i0) (v := (nI (2 * a))) (by omega) hin0 hl47 (r0.1) dX1_holdsHalving_76 ?_
    refine gIloadN (pc := 79) hC dX1_holdsHalving_79 rfl 0 rfl ?_
    refine gV (pc := 80) (rest := [.int (nI ((ps a (un o a) 1 (fun i => F (2 * i + 1))) i).val)]) (ci := 1) (q0 := 0) hC (c_X1_rootTo l D L τ5 (2 * a) o _ (i : Int) hN ho2 (hz_pos (by omega))) rfl rfl (cwV 2 hC.2.2.2.2.1 gX1_holdsHalving_X1_rootTo rfl rfl rfl (by decide +kernel) ⟨Nat.le_of_ble_eq_true rfl, Nat.le_of_ble_eq_true rfl⟩) rfl rfl (Nat.le_of_ble_eq_true rfl) dX1_holdsHalving_80 ⟨Nat.le_of_ble_eq_true rfl, Nat.le_of_ble_eq_true rfl⟩ (fun v w1 hp => ?_)
    obtain ⟨rfl, rfl⟩ := hp
    refine gStk (st' := [.int (nI (pz (un o (2 * a) * i)).val), .int (nI ((ps a (un o a) 1 (fun i => F (2 * i + 1))) i).val)]) (pc' := 83) rfl rfl ?_
    refine gS (pc := 83) (rest := []) hC (c_X1_multiplied l D _ _ _ _ ((ps a (un o a) 1 (fun i => F (2 * i + 1))) i) (pz (un o (2 * a) * i)) rfl rfl) (va_cwS 2 hC.2.2.2.2.1 gX1_holdsHalving_X1_multiplied rfl rfl rfl (by decide +kernel) ⟨Nat.le_of_ble_eq_true rfl, Nat.le_of_ble_eq_true rfl⟩) rfl rfl (Nat.le_of_ble_eq_true rfl) dX1_holdsHalving_83 ⟨Nat.le_of_ble_eq_true rfl, Nat.le_of_ble_eq_true rfl⟩ (fun v w1 hp => ?_)
    obtain ⟨rfl, rfl⟩ := hp
    refine gStk (st' := [.int (nI ((ps a (un o a) 1 (fun i => F (2 * i + 1))) i * pz (un o (2 * a) * i)).val)]) (pc' := 86) rfl rfl ?_
    refine gIstore (pc := 86) hC (lv' := [(4, .int (nI ((ps a (un o a) 1 (fun i => F (2 * i + 1))) i * pz (un o (2 * a) * i)).val)), (3, .int (nI i)), (0, .ref (lx L)), (1, .ref (la L i0)), (2, .int (nI a))]) dX1_holdsHalving_86 (by decide) rfl ?_
    refine gAloadN (pc := 88) hC dX1_holdsHalving_88 rfl 2 rfl ?_
    refine cGetRow (pc := 89) hC 5 (by decide) rfl hin1 hl29 dX1_holdsHalving_89 ?_
    refine cGetNums (pc := 92) hC (K := 8) (by decide) hin0 hl60 dX1_holdsHalving_92 ?_
    refine gIloadN (pc := 95) hC dX1_holdsHalving_95 rfl 1 rfl ?_
    refine cNumLd (pc := 96) hC (K := 8) (v := (nI ((ps (2 * a) (un o (2 * a)) 1 F) i).val)) (by decide) i (rfl) (by omega) (r8.2 _ (by omega)) dX1_holdsHalving_96 ?_
    refine gAloadN (pc := 97) hC dX1_holdsHalving_97 rfl 2 rfl ?_
    refine cGetRow (pc := 98) hC 3 (by decide) rfl hin1 hl23 dX1_holdsHalving_98 ?_
    refine cGetNums (pc := 101) hC (K := 6) (by decide) hin0 hl60 dX1_holdsHalving_101 ?_
    refine gIloadN (pc := 104) hC dX1_holdsHalving_104 rfl 1 rfl ?_
    refine cNumLd (pc := 105) hC (K := 6) (v := (nI ((ps a (un o a) 1 (fun i => F (2 * i + 0))) i).val)) (by decide) i (rfl) (by omega) (r6.2 _ (by omega)) dX1_holdsHalving_105 ?_
    refine gIload (pc := 106) hC dX1_holdsHalving_106 0 rfl ?_
    refine gS (pc := 108) (rest := [.int (nI ((ps (2 * a) (un o (2 * a)) 1 F) i).val)]) hC (c_X1_added l D _ _ _ _ ((ps a (un o a) 1 (fun i => F (2 * i + 0))) i) ((ps a (un o a) 1 (fun i => F (2 * i + 1))) i * pz (un o (2 * a) * i)) rfl rfl) (va_cwS 2 hC.2.2.2.2.1 gX1_holdsHalving_X1_added rfl rfl rfl (by decide +kernel) ⟨Nat.le_of_ble_eq_true rfl, Nat.le_of_ble_eq_true rfl⟩) rfl rfl (Nat.le_of_ble_eq_true rfl) dX1_holdsHalving_108 ⟨Nat.le_of_ble_eq_true rfl, Nat.le_of_ble_eq_true rfl⟩ (fun v w1 hp => ?_)
    obtain ⟨rfl, rfl⟩ := hp
    refine gStk (st' := [.int (nI ((ps a (un o a) 1 (fun i => F (2 * i + 0))) i + (ps a (un o a) 1 (fun i => F (2 * i + 1))) i * pz (un o (2 * a) * i)).val), .int (nI ((ps (2 * a) (un o (2 * a)) 1 F) i).val)]) (pc' := 111) rfl rfl ?_
    refine gIcmp_ne (pc := 111) hC (tgt := 142) dX1_holdsHalving_111 (by decide) (fun hc3 => absurd (by rw [ps_split ha F i]; rfl) hc3) (fun hc3 => ?_)
    refine gAloadN (pc := 114) hC dX1_holdsHalving_114 rfl 2 rfl ?_
    refine cGetRow (pc := 115) hC 5 (by decide) rfl hin1 hl29 dX1_holdsHalving_115 ?_
    refine cGetNums (pc := 118) hC (K := 8) (by decide) hin0 hl60 dX1_holdsHalving_118 ?_
    refine gIloadN (pc := 121) hC dX1_holdsHalving_121 rfl 1 rfl ?_
    refine gIloadN (pc := 122) hC dX1_holdsHalving_122 rfl 4 rfl ?_
    refine gIadd (pc := 123) hC (v := (nI (i + a))) dX1_holdsHalving_123 (nI_add _ _) ?_
    refine cNumLd (pc := 124) hC (K := 8) (v := (nI ((ps (2 * a) (un o (2 * a)) 1 F) (i + a)).val)) (by decide) (i + a) (rfl) (by omega) (r8.2 _ (by omega)) dX1_holdsHalving_124 ?_
    refine gAloadN (pc := 125) hC dX1_holdsHalving_125 rfl 2 rfl ?_
    refine cGetRow (pc := 126) hC 3 (by decide) rfl hin1 hl23 dX1_holdsHalving_126 ?_
    refine cGetNums (pc := 129) hC (K := 6) (by decide) hin0 hl60 dX1_holdsHalving_129 ?_
    refine gIloadN (pc := 132) hC dX1_holdsHalving_132 rfl 1 rfl ?_
    refine cNumLd (pc := 133) hC (K := 6) (v := (nI ((ps a (un o a) 1 (fun i => F (2 * i + 0))) i).val)) (by decide) i (rfl) (by omega) (r6.2 _ (by omega)) dX1_holdsHalving_133 ?_
    refine gIload (pc := 134) hC dX1_holdsHalving_134 0 rfl ?_
    refine gS (pc := 136) (rest := [.int (nI ((ps (2 * a) (un o (2 * a)) 1 F) (i + a)).val)]) hC (c_X1_lessened l D _ _ _ _ ((ps a (un o a) 1 (fun i => F (2 * i + 0))) i) ((ps a (un o a) 1 (fun i => F (2 * i + 1))) i * pz (un o (2 * a) * i)) rfl rfl) (va_cwS 2 hC.2.2.2.2.1 gX1_holdsHalving_X1_lessened rfl rfl rfl (by decide +kernel) ⟨Nat.le_of_ble_eq_true rfl, Nat.le_of_ble_eq_true rfl⟩) rfl rfl (Nat.le_of_ble_eq_true rfl) dX1_holdsHalving_136 ⟨Nat.le_of_ble_eq_true rfl, Nat.le_of_ble_eq_true rfl⟩ (fun v w1 hp => ?_)
    obtain ⟨rfl, rfl⟩ := hp
    refine gStk (st' := [.int (nI ((ps a (un o a) 1 (fun i => F (2 * i + 0))) i - (ps a (un o a) 1 (fun i => F (2 * i + 1))) i * pz (un o (2 * a) * i)).val), .int (nI ((ps (2 * a) (un o (2 * a)) 1 F) (i + a)).val)]) (pc' := 139) rfl rfl ?_
    refine gIcmp_eq (pc := 139) hC (tgt := 144) dX1_holdsHalving_139 (by decide) (fun hc4 => ?_) (fun hc4 => absurd (by rw [ps_split2 hoo ha F i]; rfl) hc4)
    refine gIinc (pc := 144) hC (v := (nI (i + 1))) (lv' := [(3, .int (nI (i + 1))), (4, .int (nI ((ps a (un o a) 1 (fun i => F (2 * i + 1))) i * pz (un o (2 * a) * i)).val)), (0, .ref (lx L)), (1, .ref (la L i0)), (2, .int (nI a))]) dX1_holdsHalving_144 (q := 1) rfl (nI_1 _) (by decide) rfl ?_
    refine gGoto (pc := 147) hC (tgt := 60) dX1_holdsHalving_147 (by decide) ?_
    refine gLoc (lv' := [(3, .int (nI (i + 1))), (0, .ref (lx L)), (1, .ref (la L i0)), (2, .int (nI a))]) [0, 2, 3, 4] rfl ?_
    exact ih (()) (trivial)

abbrev rmX1_holdsBack : Room := { frames := 4, cells := 0, slots := 0, locals := 93 }
set_option maxRecDepth 100000 in
set_option maxHeartbeats 4000000 in
theorem c_X1_holdsBack (l : Launch) (D : va_G) (L : cLay) (σ : cSt) (i0 n o : Nat) (F : Nat → Rg) (hi0 : i0 < 4) (hF : rowIs σ i0 n F) (hn : okL n) (hodd : σ.1 = nI o) (hoo : okO o) : gM l yX1_holdsBack wsX1_holdsBack rmX1_holdsBack D (cTy L) (WC L σ) [.ref (lx L), .ref (la L i0)] 0 0 (fun r w => r = some (.int (nI 1)) ∧ ∃ σ', w = WC L σ' ∧ cKeep σ σ' (fun q => q < 4)) := by
  refine gM.of (cc := cX1_holdsBack) (maxL := 2) (ret := (some .boolean)) (own := RX1) (by decide) rfl rfl (Nat.le_of_ble_eq_true rfl) rfl ?_
  intro p e s m args below meth c A Q hC hr hnm hQ
  have hin1 : ∀ w ∈ u_ws RX1 TX1 8, w ∈ wsX1_holdsBack := by decide +kernel
  have hl16 : Cond.fieldLink RX1 16 "Rootrows" "left" "LRootrows$Row;" ∈ wsX1_holdsBack := by decide +kernel
  have hl20 : Cond.fieldLink RX1 20 "Rootrows" "right" "LRootrows$Row;" ∈ wsX1_holdsBack := by decide +kernel
  have hl26 : Cond.fieldLink RX1 26 "Rootrows" "wanted" "LRootrows$Row;" ∈ wsX1_holdsBack := by decide +kernel
  have hl29 : Cond.fieldLink RX1 29 "Rootrows" "found" "LRootrows$Row;" ∈ wsX1_holdsBack := by decide +kernel
  have hN := hn.N
  have hL := hn.le
  refine gAloadN (pc := 0) hC dX1_holdsBack_0 rfl 0 rfl ?_
  refine gAloadN (pc := 1) hC dX1_holdsBack_1 rfl 1 rfl ?_
  refine gAloadN (pc := 2) hC dX1_holdsBack_2 rfl 0 rfl ?_
  refine cGetRow (pc := 3) hC 1 (by decide) rfl hin1 hl16 dX1_holdsBack_3 ?_
  refine gV (pc := 6) (rest := []) (ci := 1) (q0 := 0) hC (c_X1_plainValues l D L σ i0 4 n o F (by decide) (by omega) (by omega) hF hN hodd) rfl rfl (cwV 2 hC.2.2.2.2.1 gX1_holdsBack_X1_plainValues rfl rfl rfl (by decide +kernel) ⟨Nat.le_of_ble_eq_true rfl, Nat.le_of_ble_eq_true rfl⟩) rfl rfl (Nat.le_of_ble_eq_true rfl) dX1_holdsBack_6 ⟨Nat.le_of_ble_eq_true rfl, Nat.le_of_ble_eq_true rfl⟩ (fun v w1 hp => ?_)
  obtain ⟨rfl, τ1, rfl, k1, f1⟩ := hp
  refine gStk (st' := []) (pc' := 9) rfl rfl ?_
  refine gAloadN (pc := 9) hC dX1_holdsBack_9 rfl 0 rfl ?_
  refine gAloadN (pc := 10) hC dX1_holdsBack_10 rfl 0 rfl ?_
  refine cGetRow (pc := 11) hC 1 (by decide) rfl hin1 hl16 dX1_holdsBack_11 ?_
  refine gAloadN (pc := 14) hC dX1_holdsBack_14 rfl 0 rfl ?_
  refine cGetRow (pc := 15) hC 5 (by decide) rfl hin1 hl29 dX1_holdsBack_15 ?_
  refine gV (pc := 18) (rest := []) (ci := 1) (q0 := 0) hC (c_X1_backRow l D L τ1 4 8 n o (ps n (un o n) 1 F) (by decide) (by decide) (by decide) f1 hN (k1.1.trans hodd)) rfl rfl (cwV 2 hC.2.2.2.2.1 gX1_holdsBack_X1_backRow rfl rfl rfl (by decide +kernel) ⟨Nat.le_of_ble_eq_true rfl, Nat.le_of_ble_eq_true rfl⟩) rfl rfl (Nat.le_of_ble_eq_true rfl) dX1_holdsBack_18 ⟨Nat.le_of_ble_eq_true rfl, Nat.le_of_ble_eq_true rfl⟩ (fun v w1 hp => ?_)
  obtain ⟨rfl, τ2, rfl, k2, f2⟩ := hp
  refine gStk (st' := []) (pc' := 21) rfl rfl ?_
  refine gAloadN (pc := 21) hC dX1_holdsBack_21 rfl 0 rfl ?_
  refine gAloadN (pc := 22) hC dX1_holdsBack_22 rfl 1 rfl ?_
  refine gAloadN (pc := 23) hC dX1_holdsBack_23 rfl 0 rfl ?_
  refine cGetRow (pc := 24) hC 2 (by decide) rfl hin1 hl20 dX1_holdsBack_24 ?_
  refine gV (pc := 27) (rest := []) (ci := 1) (q0 := 0) hC (c_X1_backRow l D L τ2 i0 5 n o F (by decide) (by omega) (by omega) ((hF.kept k1 (by omega)).kept k2 (by omega)) hN (k2.1.trans (k1.1.trans hodd))) rfl rfl (cwV 2 hC.2.2.2.2.1 gX1_holdsBack_X1_backRow rfl rfl rfl (by decide +kernel) ⟨Nat.le_of_ble_eq_true rfl, Nat.le_of_ble_eq_true rfl⟩) rfl rfl (Nat.le_of_ble_eq_true rfl) dX1_holdsBack_27 ⟨Nat.le_of_ble_eq_true rfl, Nat.le_of_ble_eq_true rfl⟩ (fun v w1 hp => ?_)
  obtain ⟨rfl, τ3, rfl, k3, f3⟩ := hp
  refine gStk (st' := []) (pc' := 30) rfl rfl ?_
  refine gAloadN (pc := 30) hC dX1_holdsBack_30 rfl 0 rfl ?_
  refine gAloadN (pc := 31) hC dX1_holdsBack_31 rfl 0 rfl ?_
  refine cGetRow (pc := 32) hC 2 (by decide) rfl hin1 hl20 dX1_holdsBack_32 ?_
  refine gAloadN (pc := 35) hC dX1_holdsBack_35 rfl 0 rfl ?_
  refine cGetRow (pc := 36) hC 4 (by decide) rfl hin1 hl26 dX1_holdsBack_36 ?_
  refine gV (pc := 39) (rest := []) (ci := 1) (q0 := 0) hC (c_X1_plainValues l D L τ3 5 7 n o (bk n (un o n) F) (by decide) (by decide) (by decide) f3 hN (k3.1.trans (k2.1.trans (k1.1.trans hodd)))) rfl rfl (cwV 2 hC.2.2.2.2.1 gX1_holdsBack_X1_plainValues rfl rfl rfl (by decide +kernel) ⟨Nat.le_of_ble_eq_true rfl, Nat.le_of_ble_eq_true rfl⟩) rfl rfl (Nat.le_of_ble_eq_true rfl) dX1_holdsBack_39 ⟨Nat.le_of_ble_eq_true rfl, Nat.le_of_ble_eq_true rfl⟩ (fun v w1 hp => ?_)
  obtain ⟨rfl, τ4, rfl, k4, f4⟩ := hp
  refine gStk (st' := []) (pc' := 42) rfl rfl ?_
  refine gAloadN (pc := 42) hC dX1_holdsBack_42 rfl 0 rfl ?_
  refine cGetRow (pc := 43) hC 5 (by decide) rfl hin1 hl29 dX1_holdsBack_43 ?_
  refine gAloadN (pc := 46) hC dX1_holdsBack_46 rfl 1 rfl ?_
  refine gV (pc := 47) (rest := []) (ci := 0) (q0 := 2 + 2 * 8) hC (c_X0_isLike l D L τ4 8 i0 n (by decide) (by omega) ((f2.kept k3 (by decide)).kept k4 (by decide)).1 hL) rfl (wc_row (by decide)) (cwV 1 hC.2.2.2.2.1 gX1_holdsBack_X0_isLike rfl rfl rfl (by decide +kernel) ⟨Nat.le_of_ble_eq_true rfl, Nat.le_of_ble_eq_true rfl⟩) rfl rfl (Nat.le_of_ble_eq_true rfl) dX1_holdsBack_47 ⟨Nat.le_of_ble_eq_true rfl, Nat.le_of_ble_eq_true rfl⟩ (fun v w1 hp => ?_)
  obtain ⟨rfl, b1, rfl, hb1⟩ := hp
  refine gStk (st' := [.int b1]) (pc' := 50) rfl rfl ?_
  have eb1 : b1 = nI 1 := by
    rcases hb1 with z | z
    · exact z.1
    · exact absurd (like_of ((f2.kept k3 (by decide)).kept k4 (by decide)) ((((hF.kept k1 (by omega)).kept k2 (by omega)).kept k3 (by omega)).kept k4 (by omega)) (fun j hj => bk_ps hoo hN F hj)) z.2
  subst eb1
  refine gStk (st' := [.int (nI 1)]) (pc' := 50) rfl rfl ?_
  refine gIf_eq (pc := 50) hC (tgt := 68) dX1_holdsBack_50 (by decide) (fun hc2 => absurd hc2 (by decide)) (fun hc2 => ?_)
  refine gAloadN (pc := 53) hC dX1_holdsBack_53 rfl 0 rfl ?_
  refine cGetRow (pc := 54) hC 4 (by decide) rfl hin1 hl26 dX1_holdsBack_54 ?_
  refine gAloadN (pc := 57) hC dX1_holdsBack_57 rfl 1 rfl ?_
  refine gV (pc := 58) (rest := []) (ci := 0) (q0 := 2 + 2 * 7) hC (c_X0_isLike l D L τ4 7 i0 n (by decide) (by omega) f4.1 hL) rfl (wc_row (by decide)) (cwV 1 hC.2.2.2.2.1 gX1_holdsBack_X0_isLike rfl rfl rfl (by decide +kernel) ⟨Nat.le_of_ble_eq_true rfl, Nat.le_of_ble_eq_true rfl⟩) rfl rfl (Nat.le_of_ble_eq_true rfl) dX1_holdsBack_58 ⟨Nat.le_of_ble_eq_true rfl, Nat.le_of_ble_eq_true rfl⟩ (fun v w1 hp => ?_)
  obtain ⟨rfl, b3, rfl, hb3⟩ := hp
  refine gStk (st' := [.int b3]) (pc' := 61) rfl rfl ?_
  have eb3 : b3 = nI 1 := by
    rcases hb3 with z | z
    · exact z.1
    · exact absurd (like_of f4 ((((hF.kept k1 (by omega)).kept k2 (by omega)).kept k3 (by omega)).kept k4 (by omega)) (fun j hj => ps_bk hoo hN F hj)) z.2
  subst eb3
  refine gStk (st' := [.int (nI 1)]) (pc' := 61) rfl rfl ?_
  refine gIf_eq (pc := 61) hC (tgt := 68) dX1_holdsBack_61 (by decide) (fun hc4 => absurd hc4 (by decide)) (fun hc4 => ?_)
  refine gIconst (pc := 64) hC (v := (nI 1)) dX1_holdsBack_64 (by decide +kernel) ?_
  refine gGoto (pc := 65) hC (tgt := 69) dX1_holdsBack_65 (by decide) ?_
  exact gRetZ hC hQ hr (rfl) (Nat.le_of_ble_eq_true rfl) (Nat.le_of_ble_eq_true rfl) dX1_holdsBack_69 (⟨rfl, τ4, rfl, (((((cKeep.rf σ _).tr (cKeep.of k1 (fun q hq => by omega) : cKeep _ _ (fun q => q < 4))).tr (cKeep.of k2 (fun q hq => by omega) : cKeep _ _ (fun q => q < 4))).tr (cKeep.of k3 (fun q hq => by omega) : cKeep _ _ (fun q => q < 4))).tr (cKeep.of k4 (fun q hq => by omega) : cKeep _ _ (fun q => q < 4)))⟩)

abbrev rmX1_holdsTwice : Room := { frames := 4, cells := 0, slots := 0, locals := 93 }
set_option maxRecDepth 100000 in
set_option maxHeartbeats 4000000 in
theorem c_X1_holdsTwice (l : Launch) (D : va_G) (L : cLay) (σ : cSt) (i0 n o : Nat) (F : Nat → Rg) (hi0 : i0 < 4) (hF : rowIs σ i0 n F) (hn : okL n) (hodd : σ.1 = nI o) (hoo : okO o) : gM l yX1_holdsTwice wsX1_holdsTwice rmX1_holdsTwice D (cTy L) (WC L σ) [.ref (lx L), .ref (la L i0)] 0 0 (fun r w => r = some (.int (nI 1)) ∧ ∃ σ', w = WC L σ' ∧ cKeep σ σ' (fun q => q < 4)) := by
  refine gM.of (cc := cX1_holdsTwice) (maxL := 2) (ret := (some .boolean)) (own := RX1) (by decide) rfl rfl (Nat.le_of_ble_eq_true rfl) rfl ?_
  intro p e s m args below meth c A Q hC hr hnm hQ
  have hin0 : ∀ w ∈ u_ws RX0 TX0 2, w ∈ wsX1_holdsTwice := by decide +kernel
  have hin1 : ∀ w ∈ u_ws RX1 TX1 8, w ∈ wsX1_holdsTwice := by decide +kernel
  have hl16 : Cond.fieldLink RX1 16 "Rootrows" "left" "LRootrows$Row;" ∈ wsX1_holdsTwice := by decide +kernel
  have hl26 : Cond.fieldLink RX1 26 "Rootrows" "wanted" "LRootrows$Row;" ∈ wsX1_holdsTwice := by decide +kernel
  have hl29 : Cond.fieldLink RX1 29 "Rootrows" "found" "LRootrows$Row;" ∈ wsX1_holdsTwice := by decide +kernel
  have hl47 : Cond.fieldLink RX1 47 "Rootrows$Row" "size" "I" ∈ wsX1_holdsTwice := by decide +kernel
  have hN := hn.N
  have hL := hn.le
  refine gAloadN (pc := 0) hC dX1_holdsTwice_0 rfl 0 rfl ?_
  refine gAloadN (pc := 1) hC dX1_holdsTwice_1 rfl 1 rfl ?_
  refine gAloadN (pc := 2) hC dX1_holdsTwice_2 rfl 0 rfl ?_
  refine cGetRow (pc := 3) hC 1 (by decide) rfl hin1 hl16 dX1_holdsTwice_3 ?_
  refine gV (pc := 6) (rest := []) (ci := 1) (q0 := 0) hC (c_X1_plainValues l D L σ i0 4 n o F (by decide) (by omega) (by omega) hF hN hodd) rfl rfl (cwV 2 hC.2.2.2.2.1 gX1_holdsTwice_X1_plainValues rfl rfl rfl (by decide +kernel) ⟨Nat.le_of_ble_eq_true rfl, Nat.le_of_ble_eq_true rfl⟩) rfl rfl (Nat.le_of_ble_eq_true rfl) dX1_holdsTwice_6 ⟨Nat.le_of_ble_eq_true rfl, Nat.le_of_ble_eq_true rfl⟩ (fun v w1 hp => ?_)
  obtain ⟨rfl, τ1, rfl, k1, f1⟩ := hp
  refine gStk (st' := []) (pc' := 9) rfl rfl ?_
  refine gAloadN (pc := 9) hC dX1_holdsTwice_9 rfl 0 rfl ?_
  refine gAloadN (pc := 10) hC dX1_holdsTwice_10 rfl 0 rfl ?_
  refine cGetRow (pc := 11) hC 1 (by decide) rfl hin1 hl16 dX1_holdsTwice_11 ?_
  refine gAloadN (pc := 14) hC dX1_holdsTwice_14 rfl 0 rfl ?_
  refine cGetRow (pc := 15) hC 5 (by decide) rfl hin1 hl29 dX1_holdsTwice_15 ?_
  refine gV (pc := 18) (rest := []) (ci := 1) (q0 := 0) hC (c_X1_plainValues l D L τ1 4 8 n o (ps n (un o n) 1 F) (by decide) (by decide) (by decide) f1 hN (k1.1.trans hodd)) rfl rfl (cwV 2 hC.2.2.2.2.1 gX1_holdsTwice_X1_plainValues rfl rfl rfl (by decide +kernel) ⟨Nat.le_of_ble_eq_true rfl, Nat.le_of_ble_eq_true rfl⟩) rfl rfl (Nat.le_of_ble_eq_true rfl) dX1_holdsTwice_18 ⟨Nat.le_of_ble_eq_true rfl, Nat.le_of_ble_eq_true rfl⟩ (fun v w1 hp => ?_)
  obtain ⟨rfl, τ2, rfl, k2, f2⟩ := hp
  refine gStk (st' := []) (pc' := 21) rfl rfl ?_
  refine gAloadN (pc := 21) hC dX1_holdsTwice_21 rfl 0 rfl ?_
  refine cGetRow (pc := 22) hC 4 (by decide) rfl hin1 hl26 dX1_holdsTwice_22 ?_
  refine gAloadN (pc := 25) hC dX1_holdsTwice_25 rfl 1 rfl ?_
  refine gV (pc := 26) (rest := []) (ci := 0) (q0 := 2 + 2 * 7) hC (c_X0_becomeTurned l D L τ2 7 i0 n F (by decide) (by omega) (by omega) ((hF.kept k1 (by omega)).kept k2 (by omega)) hN) rfl (wc_row (by decide)) (cwV 1 hC.2.2.2.2.1 gX1_holdsTwice_X0_becomeTurned rfl rfl rfl (by decide +kernel) ⟨Nat.le_of_ble_eq_true rfl, Nat.le_of_ble_eq_true rfl⟩) rfl rfl (Nat.le_of_ble_eq_true rfl) dX1_holdsTwice_26 ⟨Nat.le_of_ble_eq_true rfl, Nat.le_of_ble_eq_true rfl⟩ (fun v w1 hp => ?_)
  obtain ⟨rfl, τ3, rfl, k3, f3⟩ := hp
  refine gStk (st' := []) (pc' := 29) rfl rfl ?_
  refine gAloadN (pc := 29) hC dX1_holdsTwice_29 rfl 0 rfl ?_
  refine cGetRow (pc := 30) hC 4 (by decide) rfl hin1 hl26 dX1_holdsTwice_30 ?_
  refine gAloadN (pc := 33) hC dX1_holdsTwice_33 rfl 0 rfl ?_
  refine cGetRow (pc := 34) hC 4 (by decide) rfl hin1 hl26 dX1_holdsTwice_34 ?_
  refine gAloadN (pc := 37) hC dX1_holdsTwice_37 rfl 1 rfl ?_
  refine cGetSize (pc := 38) hC (K := i0) (v := (nI n)) (by omega) hin0 hl47 ((((hF.kept k1 (by omega)).kept k2 (by omega)).kept k3 (by omega)).1) dX1_holdsTwice_38 ?_
  refine gV (pc := 41) (rest := []) (ci := 0) (q0 := 2 + 2 * 7) hC (c_X0_becomeScaled l D L τ3 7 7 n (fun i => F (ix n (-(i : Int)))) _ (nR n) (by decide) (by decide) f3 hN (by rw [nR_val (by omega)])) rfl (wc_row (by decide)) (cwV 2 hC.2.2.2.2.1 gX1_holdsTwice_X0_becomeScaled rfl rfl rfl (by decide +kernel) ⟨Nat.le_of_ble_eq_true rfl, Nat.le_of_ble_eq_true rfl⟩) rfl rfl (Nat.le_of_ble_eq_true rfl) dX1_holdsTwice_41 ⟨Nat.le_of_ble_eq_true rfl, Nat.le_of_ble_eq_true rfl⟩ (fun v w1 hp => ?_)
  obtain ⟨rfl, τ4, rfl, k4, f4⟩ := hp
  refine gStk (st' := []) (pc' := 44) rfl rfl ?_
  refine gAloadN (pc := 44) hC dX1_holdsTwice_44 rfl 0 rfl ?_
  refine cGetRow (pc := 45) hC 5 (by decide) rfl hin1 hl29 dX1_holdsTwice_45 ?_
  refine gAloadN (pc := 48) hC dX1_holdsTwice_48 rfl 0 rfl ?_
  refine cGetRow (pc := 49) hC 4 (by decide) rfl hin1 hl26 dX1_holdsTwice_49 ?_
  refine gV (pc := 52) (rest := []) (ci := 0) (q0 := 2 + 2 * 8) hC (c_X0_isLike l D L τ4 8 7 n (by decide) (by decide) ((f2.kept k3 (by decide)).kept k4 (by decide)).1 hL) rfl (wc_row (by decide)) (cwV 1 hC.2.2.2.2.1 gX1_holdsTwice_X0_isLike rfl rfl rfl (by decide +kernel) ⟨Nat.le_of_ble_eq_true rfl, Nat.le_of_ble_eq_true rfl⟩) rfl rfl (Nat.le_of_ble_eq_true rfl) dX1_holdsTwice_52 ⟨Nat.le_of_ble_eq_true rfl, Nat.le_of_ble_eq_true rfl⟩ (fun v w1 hp => ?_)
  obtain ⟨rfl, b1, rfl, hb1⟩ := hp
  refine gStk (st' := [.int b1]) (pc' := 55) rfl rfl ?_
  have eb1 : b1 = nI 1 := by
    rcases hb1 with z | z
    · exact z.1
    · exact absurd (like_of ((f2.kept k3 (by decide)).kept k4 (by decide)) f4 (fun j hj => ps_ps hoo hN F hj)) z.2
  subst eb1
  refine gStk (st' := [.int (nI 1)]) (pc' := 55) rfl rfl ?_
  exact gRetZ hC hQ hr (rfl) (Nat.le_of_ble_eq_true rfl) (Nat.le_of_ble_eq_true rfl) dX1_holdsTwice_55 (⟨rfl, τ4, rfl, (((((cKeep.rf σ _).tr (cKeep.of k1 (fun q hq => by omega) : cKeep _ _ (fun q => q < 4))).tr (cKeep.of k2 (fun q hq => by omega) : cKeep _ _ (fun q => q < 4))).tr (cKeep.of k3 (fun q hq => by omega) : cKeep _ _ (fun q => q < 4))).tr (cKeep.of k4 (fun q hq => by omega) : cKeep _ _ (fun q => q < 4)))⟩)

abbrev rmX1_holdsOneToThree : Room := { frames := 5, cells := 0, slots := 0, locals := 117 }
set_option maxRecDepth 100000 in
set_option maxHeartbeats 4000000 in
theorem c_X1_holdsOneToThree (l : Launch) (D : va_G) (L : cLay) (σ : cSt) (i0 n o : Nat) (F : Nat → Rg) (hi0 : i0 < 4) (hF : rowIs σ i0 n F) (hn : okL n) (hodd : σ.1 = nI o) (hoo : okO o) : gM l yX1_holdsOneToThree wsX1_holdsOneToThree rmX1_holdsOneToThree D (cTy L) (WC L σ) [.ref (lx L), .ref (la L i0)] 0 0 (fun r w => r = some (.int (nI 1)) ∧ ∃ σ', w = WC L σ' ∧ cKeep σ σ' (fun q => q < 4)) := by
  refine gM.of (cc := cX1_holdsOneToThree) (maxL := 2) (ret := (some .boolean)) (own := RX1) (by decide) rfl rfl (Nat.le_of_ble_eq_true rfl) rfl ?_
  intro p e s m args below meth c A Q hC hr hnm hQ
  refine gAloadN (pc := 0) hC dX1_holdsOneToThree_0 rfl 0 rfl ?_
  refine gAloadN (pc := 1) hC dX1_holdsOneToThree_1 rfl 1 rfl ?_
  refine gV (pc := 2) (rest := []) (ci := 1) (q0 := 0) hC (c_X1_holdsHalving l D L σ i0 n o F hi0 hF hn hodd hoo) rfl rfl (cwV 1 hC.2.2.2.2.1 gX1_holdsOneToThree_X1_holdsHalving rfl rfl rfl (by decide +kernel) ⟨Nat.le_of_ble_eq_true rfl, Nat.le_of_ble_eq_true rfl⟩) rfl rfl (Nat.le_of_ble_eq_true rfl) dX1_holdsOneToThree_2 ⟨Nat.le_of_ble_eq_true rfl, Nat.le_of_ble_eq_true rfl⟩ (fun v w1 hp => ?_)
  obtain ⟨rfl, τ1, rfl, k1⟩ := hp
  refine gStk (st' := [.int (nI 1)]) (pc' := 5) rfl rfl ?_
  refine gIf_eq (pc := 5) hC (tgt := 28) dX1_holdsOneToThree_5 (by decide) (fun hc1 => absurd hc1 (by decide)) (fun hc1 => ?_)
  refine gAloadN (pc := 8) hC dX1_holdsOneToThree_8 rfl 0 rfl ?_
  refine gAloadN (pc := 9) hC dX1_holdsOneToThree_9 rfl 1 rfl ?_
  refine gV (pc := 10) (rest := []) (ci := 1) (q0 := 0) hC (c_X1_holdsBack l D L τ1 i0 n o F hi0 (hF.eq (k1.2 i0 hi0)) hn (k1.1.trans hodd) hoo) rfl rfl (cwV 1 hC.2.2.2.2.1 gX1_holdsOneToThree_X1_holdsBack rfl rfl rfl (by decide +kernel) ⟨Nat.le_of_ble_eq_true rfl, Nat.le_of_ble_eq_true rfl⟩) rfl rfl (Nat.le_of_ble_eq_true rfl) dX1_holdsOneToThree_10 ⟨Nat.le_of_ble_eq_true rfl, Nat.le_of_ble_eq_true rfl⟩ (fun v w1 hp => ?_)
  obtain ⟨rfl, τ2, rfl, k2⟩ := hp
  refine gStk (st' := [.int (nI 1)]) (pc' := 13) rfl rfl ?_
  refine gIf_eq (pc := 13) hC (tgt := 28) dX1_holdsOneToThree_13 (by decide) (fun hc2 => absurd hc2 (by decide)) (fun hc2 => ?_)
  refine gAloadN (pc := 16) hC dX1_holdsOneToThree_16 rfl 0 rfl ?_
  refine gAloadN (pc := 17) hC dX1_holdsOneToThree_17 rfl 1 rfl ?_
  refine gV (pc := 18) (rest := []) (ci := 1) (q0 := 0) hC (c_X1_holdsTwice l D L τ2 i0 n o F hi0 (hF.eq ((k1.tr k2).2 i0 hi0)) hn ((k1.tr k2).1.trans hodd) hoo) rfl rfl (cwV 1 hC.2.2.2.2.1 gX1_holdsOneToThree_X1_holdsTwice rfl rfl rfl (by decide +kernel) ⟨Nat.le_of_ble_eq_true rfl, Nat.le_of_ble_eq_true rfl⟩) rfl rfl (Nat.le_of_ble_eq_true rfl) dX1_holdsOneToThree_18 ⟨Nat.le_of_ble_eq_true rfl, Nat.le_of_ble_eq_true rfl⟩ (fun v w1 hp => ?_)
  obtain ⟨rfl, τ3, rfl, k3⟩ := hp
  refine gStk (st' := [.int (nI 1)]) (pc' := 21) rfl rfl ?_
  refine gIf_eq (pc := 21) hC (tgt := 28) dX1_holdsOneToThree_21 (by decide) (fun hc3 => absurd hc3 (by decide)) (fun hc3 => ?_)
  refine gIconst (pc := 24) hC (v := (nI 1)) dX1_holdsOneToThree_24 (by decide +kernel) ?_
  refine gGoto (pc := 25) hC (tgt := 29) dX1_holdsOneToThree_25 (by decide) ?_
  exact gRetZ hC hQ hr (rfl) (Nat.le_of_ble_eq_true rfl) (Nat.le_of_ble_eq_true rfl) dX1_holdsOneToThree_29 (⟨rfl, τ3, rfl, (k1.tr k2).tr k3⟩)

abbrev rmX1_holdsProduct : Room := { frames := 4, cells := 0, slots := 0, locals := 93 }
set_option maxRecDepth 100000 in
set_option maxHeartbeats 4000000 in
theorem c_X1_holdsProduct (l : Launch) (D : va_G) (L : cLay) (σ : cSt) (i0 j0 n o : Nat) (F G : Nat → Rg) (hi0 : i0 < 4) (hj0 : j0 < 4) (hF : rowIs σ i0 n F) (hG : rowIs σ j0 n G) (hn : okL n) (hodd : σ.1 = nI o) (hoo : okO o) : gM l yX1_holdsProduct wsX1_holdsProduct rmX1_holdsProduct D (cTy L) (WC L σ) [.ref (lx L), .ref (la L i0), .ref (la L j0)] 0 0 (fun r w => r = some (.int (nI 1)) ∧ ∃ σ', w = WC L σ' ∧ cKeep σ σ' (fun q => q < 4)) := by
  refine gM.of (cc := cX1_holdsProduct) (maxL := 3) (ret := (some .boolean)) (own := RX1) (by decide) rfl rfl (Nat.le_of_ble_eq_true rfl) rfl ?_
  intro p e s m args below meth c A Q hC hr hnm hQ
  have hin1 : ∀ w ∈ u_ws RX1 TX1 8, w ∈ wsX1_holdsProduct := by decide +kernel
  have hl16 : Cond.fieldLink RX1 16 "Rootrows" "left" "LRootrows$Row;" ∈ wsX1_holdsProduct := by decide +kernel
  have hl20 : Cond.fieldLink RX1 20 "Rootrows" "right" "LRootrows$Row;" ∈ wsX1_holdsProduct := by decide +kernel
  have hl23 : Cond.fieldLink RX1 23 "Rootrows" "mixed" "LRootrows$Row;" ∈ wsX1_holdsProduct := by decide +kernel
  have hl26 : Cond.fieldLink RX1 26 "Rootrows" "wanted" "LRootrows$Row;" ∈ wsX1_holdsProduct := by decide +kernel
  have hl29 : Cond.fieldLink RX1 29 "Rootrows" "found" "LRootrows$Row;" ∈ wsX1_holdsProduct := by decide +kernel
  have hN := hn.N
  have hL := hn.le
  refine gAloadN (pc := 0) hC dX1_holdsProduct_0 rfl 0 rfl ?_
  refine gAloadN (pc := 1) hC dX1_holdsProduct_1 rfl 1 rfl ?_
  refine gAloadN (pc := 2) hC dX1_holdsProduct_2 rfl 0 rfl ?_
  refine cGetRow (pc := 3) hC 1 (by decide) rfl hin1 hl16 dX1_holdsProduct_3 ?_
  refine gV (pc := 6) (rest := []) (ci := 1) (q0 := 0) hC (c_X1_plainValues l D L σ i0 4 n o F (by decide) (by omega) (by omega) hF hN hodd) rfl rfl (cwV 2 hC.2.2.2.2.1 gX1_holdsProduct_X1_plainValues rfl rfl rfl (by decide +kernel) ⟨Nat.le_of_ble_eq_true rfl, Nat.le_of_ble_eq_true rfl⟩) rfl rfl (Nat.le_of_ble_eq_true rfl) dX1_holdsProduct_6 ⟨Nat.le_of_ble_eq_true rfl, Nat.le_of_ble_eq_true rfl⟩ (fun v w1 hp => ?_)
  obtain ⟨rfl, τ1, rfl, k1, f1⟩ := hp
  refine gStk (st' := []) (pc' := 9) rfl rfl ?_
  refine gAloadN (pc := 9) hC dX1_holdsProduct_9 rfl 0 rfl ?_
  refine gAloadN (pc := 10) hC dX1_holdsProduct_10 rfl 2 rfl ?_
  refine gAloadN (pc := 11) hC dX1_holdsProduct_11 rfl 0 rfl ?_
  refine cGetRow (pc := 12) hC 2 (by decide) rfl hin1 hl20 dX1_holdsProduct_12 ?_
  refine gV (pc := 15) (rest := []) (ci := 1) (q0 := 0) hC (c_X1_plainValues l D L τ1 j0 5 n o G (by decide) (by omega) (by omega) (hG.kept k1 (by omega)) hN (k1.1.trans hodd)) rfl rfl (cwV 2 hC.2.2.2.2.1 gX1_holdsProduct_X1_plainValues rfl rfl rfl (by decide +kernel) ⟨Nat.le_of_ble_eq_true rfl, Nat.le_of_ble_eq_true rfl⟩) rfl rfl (Nat.le_of_ble_eq_true rfl) dX1_holdsProduct_15 ⟨Nat.le_of_ble_eq_true rfl, Nat.le_of_ble_eq_true rfl⟩ (fun v w1 hp => ?_)
  obtain ⟨rfl, τ2, rfl, k2, f2⟩ := hp
  refine gStk (st' := []) (pc' := 18) rfl rfl ?_
  refine gAloadN (pc := 18) hC dX1_holdsProduct_18 rfl 0 rfl ?_
  refine cGetRow (pc := 19) hC 3 (by decide) rfl hin1 hl23 dX1_holdsProduct_19 ?_
  refine gAloadN (pc := 22) hC dX1_holdsProduct_22 rfl 0 rfl ?_
  refine cGetRow (pc := 23) hC 1 (by decide) rfl hin1 hl16 dX1_holdsProduct_23 ?_
  refine gAloadN (pc := 26) hC dX1_holdsProduct_26 rfl 0 rfl ?_
  refine cGetRow (pc := 27) hC 2 (by decide) rfl hin1 hl20 dX1_holdsProduct_27 ?_
  refine gV (pc := 30) (rest := []) (ci := 0) (q0 := 2 + 2 * 6) hC (c_X0_becomeProducts l D L τ2 6 4 5 n (ps n (un o n) 1 F) (ps n (un o n) 1 G) (by decide) (by decide) (by decide) (f1.kept k2 (by decide)) f2 hN) rfl (wc_row (by decide)) (cwV 2 hC.2.2.2.2.1 gX1_holdsProduct_X0_becomeProducts rfl rfl rfl (by decide +kernel) ⟨Nat.le_of_ble_eq_true rfl, Nat.le_of_ble_eq_true rfl⟩) rfl rfl (Nat.le_of_ble_eq_true rfl) dX1_holdsProduct_30 ⟨Nat.le_of_ble_eq_true rfl, Nat.le_of_ble_eq_true rfl⟩ (fun v w1 hp => ?_)
  obtain ⟨rfl, τ3, rfl, k3, f3⟩ := hp
  refine gStk (st' := []) (pc' := 33) rfl rfl ?_
  refine gAloadN (pc := 33) hC dX1_holdsProduct_33 rfl 0 rfl ?_
  refine cGetRow (pc := 34) hC 4 (by decide) rfl hin1 hl26 dX1_holdsProduct_34 ?_
  refine gAloadN (pc := 37) hC dX1_holdsProduct_37 rfl 1 rfl ?_
  refine gAloadN (pc := 38) hC dX1_holdsProduct_38 rfl 2 rfl ?_
  refine gV (pc := 39) (rest := []) (ci := 0) (q0 := 2 + 2 * 7) hC (c_X0_becomeRingProduct l D L τ3 7 i0 j0 n F G (by decide) (by omega) (by omega) (by omega) (by omega) (((hF.kept k1 (by omega)).kept k2 (by omega)).kept k3 (by omega)) (((hG.kept k1 (by omega)).kept k2 (by omega)).kept k3 (by omega)) hN) rfl (wc_row (by decide)) (cwV 2 hC.2.2.2.2.1 gX1_holdsProduct_X0_becomeRingProduct rfl rfl rfl (by decide +kernel) ⟨Nat.le_of_ble_eq_true rfl, Nat.le_of_ble_eq_true rfl⟩) rfl rfl (Nat.le_of_ble_eq_true rfl) dX1_holdsProduct_39 ⟨Nat.le_of_ble_eq_true rfl, Nat.le_of_ble_eq_true rfl⟩ (fun v w1 hp => ?_)
  obtain ⟨rfl, τ4, rfl, k4, f4⟩ := hp
  refine gStk (st' := []) (pc' := 42) rfl rfl ?_
  refine gAloadN (pc := 42) hC dX1_holdsProduct_42 rfl 0 rfl ?_
  refine gAloadN (pc := 43) hC dX1_holdsProduct_43 rfl 0 rfl ?_
  refine cGetRow (pc := 44) hC 4 (by decide) rfl hin1 hl26 dX1_holdsProduct_44 ?_
  refine gAloadN (pc := 47) hC dX1_holdsProduct_47 rfl 0 rfl ?_
  refine cGetRow (pc := 48) hC 5 (by decide) rfl hin1 hl29 dX1_holdsProduct_48 ?_
  refine gV (pc := 51) (rest := []) (ci := 1) (q0 := 0) hC (c_X1_plainValues l D L τ4 7 8 n o (rp n F G) (by decide) (by decide) (by decide) f4 hN (k4.1.trans (k3.1.trans (k2.1.trans (k1.1.trans hodd))))) rfl rfl (cwV 2 hC.2.2.2.2.1 gX1_holdsProduct_X1_plainValues rfl rfl rfl (by decide +kernel) ⟨Nat.le_of_ble_eq_true rfl, Nat.le_of_ble_eq_true rfl⟩) rfl rfl (Nat.le_of_ble_eq_true rfl) dX1_holdsProduct_51 ⟨Nat.le_of_ble_eq_true rfl, Nat.le_of_ble_eq_true rfl⟩ (fun v w1 hp => ?_)
  obtain ⟨rfl, τ5, rfl, k5, f5⟩ := hp
  refine gStk (st' := []) (pc' := 54) rfl rfl ?_
  refine gAloadN (pc := 54) hC dX1_holdsProduct_54 rfl 0 rfl ?_
  refine cGetRow (pc := 55) hC 5 (by decide) rfl hin1 hl29 dX1_holdsProduct_55 ?_
  refine gAloadN (pc := 58) hC dX1_holdsProduct_58 rfl 0 rfl ?_
  refine cGetRow (pc := 59) hC 3 (by decide) rfl hin1 hl23 dX1_holdsProduct_59 ?_
  refine gV (pc := 62) (rest := []) (ci := 0) (q0 := 2 + 2 * 8) hC (c_X0_isLike l D L τ5 8 6 n (by decide) (by decide) f5.1 hL) rfl (wc_row (by decide)) (cwV 1 hC.2.2.2.2.1 gX1_holdsProduct_X0_isLike rfl rfl rfl (by decide +kernel) ⟨Nat.le_of_ble_eq_true rfl, Nat.le_of_ble_eq_true rfl⟩) rfl rfl (Nat.le_of_ble_eq_true rfl) dX1_holdsProduct_62 ⟨Nat.le_of_ble_eq_true rfl, Nat.le_of_ble_eq_true rfl⟩ (fun v w1 hp => ?_)
  obtain ⟨rfl, b1, rfl, hb1⟩ := hp
  refine gStk (st' := [.int b1]) (pc' := 65) rfl rfl ?_
  have eb1 : b1 = nI 1 := by
    rcases hb1 with z | z
    · exact z.1
    · exact absurd (like_of f5 ((f3.kept k4 (by decide)).kept k5 (by decide)) (fun j hj => ps_rp hN F G j)) z.2
  subst eb1
  refine gStk (st' := [.int (nI 1)]) (pc' := 65) rfl rfl ?_
  refine gIf_ne (pc := 65) hC (tgt := 70) dX1_holdsProduct_65 (by decide) (fun hc2 => ?_) (fun hc2 => absurd hc2 (by decide))
  refine gAloadN (pc := 70) hC dX1_holdsProduct_70 rfl 0 rfl ?_
  refine gAloadN (pc := 71) hC dX1_holdsProduct_71 rfl 0 rfl ?_
  refine cGetRow (pc := 72) hC 3 (by decide) rfl hin1 hl23 dX1_holdsProduct_72 ?_
  refine gAloadN (pc := 75) hC dX1_holdsProduct_75 rfl 0 rfl ?_
  refine cGetRow (pc := 76) hC 5 (by decide) rfl hin1 hl29 dX1_holdsProduct_76 ?_
  refine gV (pc := 79) (rest := []) (ci := 1) (q0 := 0) hC (c_X1_backRow l D L τ5 6 8 n o (fun i => (ps n (un o n) 1 F) i * (ps n (un o n) 1 G) i) (by decide) (by decide) (by decide) ((f3.kept k4 (by decide)).kept k5 (by decide)) hN (k5.1.trans (k4.1.trans (k3.1.trans (k2.1.trans (k1.1.trans hodd)))))) rfl rfl (cwV 2 hC.2.2.2.2.1 gX1_holdsProduct_X1_backRow rfl rfl rfl (by decide +kernel) ⟨Nat.le_of_ble_eq_true rfl, Nat.le_of_ble_eq_true rfl⟩) rfl rfl (Nat.le_of_ble_eq_true rfl) dX1_holdsProduct_79 ⟨Nat.le_of_ble_eq_true rfl, Nat.le_of_ble_eq_true rfl⟩ (fun v w1 hp => ?_)
  obtain ⟨rfl, τ6, rfl, k6, f6⟩ := hp
  refine gStk (st' := []) (pc' := 82) rfl rfl ?_
  refine gAloadN (pc := 82) hC dX1_holdsProduct_82 rfl 0 rfl ?_
  refine cGetRow (pc := 83) hC 5 (by decide) rfl hin1 hl29 dX1_holdsProduct_83 ?_
  refine gAloadN (pc := 86) hC dX1_holdsProduct_86 rfl 0 rfl ?_
  refine cGetRow (pc := 87) hC 4 (by decide) rfl hin1 hl26 dX1_holdsProduct_87 ?_
  refine gV (pc := 90) (rest := []) (ci := 0) (q0 := 2 + 2 * 8) hC (c_X0_isLike l D L τ6 8 7 n (by decide) (by decide) f6.1 hL) rfl (wc_row (by decide)) (cwV 1 hC.2.2.2.2.1 gX1_holdsProduct_X0_isLike rfl rfl rfl (by decide +kernel) ⟨Nat.le_of_ble_eq_true rfl, Nat.le_of_ble_eq_true rfl⟩) rfl rfl (Nat.le_of_ble_eq_true rfl) dX1_holdsProduct_90 ⟨Nat.le_of_ble_eq_true rfl, Nat.le_of_ble_eq_true rfl⟩ (fun v w1 hp => ?_)
  obtain ⟨rfl, b3, rfl, hb3⟩ := hp
  refine gStk (st' := [.int b3]) (pc' := 93) rfl rfl ?_
  have eb3 : b3 = nI 1 := by
    rcases hb3 with z | z
    · exact z.1
    · exact absurd (like_of f6 ((f4.kept k5 (by decide)).kept k6 (by decide)) (fun j hj => bk_prod hoo hN F G hj)) z.2
  subst eb3
  refine gStk (st' := [.int (nI 1)]) (pc' := 93) rfl rfl ?_
  exact gRetZ hC hQ hr (rfl) (Nat.le_of_ble_eq_true rfl) (Nat.le_of_ble_eq_true rfl) dX1_holdsProduct_93 (⟨rfl, τ6, rfl, (((((((cKeep.rf σ _).tr (cKeep.of k1 (fun q hq => by omega) : cKeep _ _ (fun q => q < 4))).tr (cKeep.of k2 (fun q hq => by omega) : cKeep _ _ (fun q => q < 4))).tr (cKeep.of k3 (fun q hq => by omega) : cKeep _ _ (fun q => q < 4))).tr (cKeep.of k4 (fun q hq => by omega) : cKeep _ _ (fun q => q < 4))).tr (cKeep.of k5 (fun q hq => by omega) : cKeep _ _ (fun q => q < 4))).tr (cKeep.of k6 (fun q hq => by omega) : cKeep _ _ (fun q => q < 4)))⟩)

abbrev rmX1_holdsPlainProduct : Room := { frames := 3, cells := 0, slots := 0, locals := 81 }
set_option maxRecDepth 100000 in
set_option maxHeartbeats 4000000 in
theorem c_X1_holdsPlainProduct (l : Launch) (D : va_G) (L : cLay) (σ : cSt) (i0 j0 n o : Nat) (F G : Nat → Rg) (hi0 : i0 < 4) (hj0 : j0 < 4) (hF : rowIs σ i0 n F) (hG : rowIs σ j0 n G) (hn : okL n) (hodd : σ.1 = nI o) (hoo : okO o) (hn8 : n ≤ 8) : gM l yX1_holdsPlainProduct wsX1_holdsPlainProduct rmX1_holdsPlainProduct D (cTy L) (WC L σ) [.ref (lx L), .ref (la L i0), .ref (la L j0)] 0 0 (fun r w => r = some (.int (nI 1)) ∧ ∃ σ', w = WC L σ' ∧ cKeep σ σ' (fun q => q < 4)) := by
  refine gM.of (cc := cX1_holdsPlainProduct) (maxL := 3) (ret := (some .boolean)) (own := RX1) (by decide) rfl rfl (Nat.le_of_ble_eq_true rfl) rfl ?_
  intro p e s m args below meth c A Q hC hr hnm hQ
  have hin0 : ∀ w ∈ u_ws RX0 TX0 2, w ∈ wsX1_holdsPlainProduct := by decide +kernel
  have hin1 : ∀ w ∈ u_ws RX1 TX1 8, w ∈ wsX1_holdsPlainProduct := by decide +kernel
  have hl16 : Cond.fieldLink RX1 16 "Rootrows" "left" "LRootrows$Row;" ∈ wsX1_holdsPlainProduct := by decide +kernel
  have hl20 : Cond.fieldLink RX1 20 "Rootrows" "right" "LRootrows$Row;" ∈ wsX1_holdsPlainProduct := by decide +kernel
  have hl26 : Cond.fieldLink RX1 26 "Rootrows" "wanted" "LRootrows$Row;" ∈ wsX1_holdsPlainProduct := by decide +kernel
  have hl29 : Cond.fieldLink RX1 29 "Rootrows" "found" "LRootrows$Row;" ∈ wsX1_holdsPlainProduct := by decide +kernel
  have hl47 : Cond.fieldLink RX1 47 "Rootrows$Row" "size" "I" ∈ wsX1_holdsPlainProduct := by decide +kernel
  have hl60 : Cond.fieldLink RX1 60 "Rootrows$Row" "numbers" "[I" ∈ wsX1_holdsPlainProduct := by decide +kernel
  have hN := hn.N
  have hL := hn.le
  refine gAloadN (pc := 0) hC dX1_holdsPlainProduct_0 rfl 0 rfl ?_
  refine cGetRow (pc := 1) hC 1 (by decide) rfl hin1 hl16 dX1_holdsPlainProduct_1 ?_
  refine gAloadN (pc := 4) hC dX1_holdsPlainProduct_4 rfl 1 rfl ?_
  refine gV (pc := 5) (rest := []) (ci := 0) (q0 := 2 + 2 * 4) hC (c_X0_becomeLengthened l D L σ 4 i0 n F (by decide) (by omega) (by omega) hF hn8) rfl (wc_row (by decide)) (cwV 1 hC.2.2.2.2.1 gX1_holdsPlainProduct_X0_becomeLengthened rfl rfl rfl (by decide +kernel) ⟨Nat.le_of_ble_eq_true rfl, Nat.le_of_ble_eq_true rfl⟩) rfl rfl (Nat.le_of_ble_eq_true rfl) dX1_holdsPlainProduct_5 ⟨Nat.le_of_ble_eq_true rfl, Nat.le_of_ble_eq_true rfl⟩ (fun v w1 hp => ?_)
  obtain ⟨rfl, τ1, rfl, k1, f1⟩ := hp
  refine gStk (st' := []) (pc' := 8) rfl rfl ?_
  refine gAloadN (pc := 8) hC dX1_holdsPlainProduct_8 rfl 0 rfl ?_
  refine cGetRow (pc := 9) hC 2 (by decide) rfl hin1 hl20 dX1_holdsPlainProduct_9 ?_
  refine gAloadN (pc := 12) hC dX1_holdsPlainProduct_12 rfl 2 rfl ?_
  refine gV (pc := 13) (rest := []) (ci := 0) (q0 := 2 + 2 * 5) hC (c_X0_becomeLengthened l D L τ1 5 j0 n G (by decide) (by omega) (by omega) (hG.kept k1 (by omega)) hn8) rfl (wc_row (by decide)) (cwV 1 hC.2.2.2.2.1 gX1_holdsPlainProduct_X0_becomeLengthened rfl rfl rfl (by decide +kernel) ⟨Nat.le_of_ble_eq_true rfl, Nat.le_of_ble_eq_true rfl⟩) rfl rfl (Nat.le_of_ble_eq_true rfl) dX1_holdsPlainProduct_13 ⟨Nat.le_of_ble_eq_true rfl, Nat.le_of_ble_eq_true rfl⟩ (fun v w1 hp => ?_)
  obtain ⟨rfl, τ2, rfl, k2, f2⟩ := hp
  refine gStk (st' := []) (pc' := 16) rfl rfl ?_
  have hN2 : okN (2 * n) := by unfold okL at hn; unfold okN; omega
  have hp : 0 < n := hN.pos
  refine gAloadN (pc := 16) hC dX1_holdsPlainProduct_16 rfl 0 rfl ?_
  refine cGetRow (pc := 17) hC 5 (by decide) rfl hin1 hl29 dX1_holdsPlainProduct_17 ?_
  refine gAloadN (pc := 20) hC dX1_holdsPlainProduct_20 rfl 0 rfl ?_
  refine cGetRow (pc := 21) hC 1 (by decide) rfl hin1 hl16 dX1_holdsPlainProduct_21 ?_
  refine gAloadN (pc := 24) hC dX1_holdsPlainProduct_24 rfl 0 rfl ?_
  refine cGetRow (pc := 25) hC 2 (by decide) rfl hin1 hl20 dX1_holdsPlainProduct_25 ?_
  refine gV (pc := 28) (rest := []) (ci := 0) (q0 := 2 + 2 * 8) hC (c_X0_becomeRingProduct l D L τ2 8 4 5 (2 * n) (fun j => if j < n then F j else 0) (fun j => if j < n then G j else 0) (by decide) (by decide) (by decide) (by decide) (by decide) (f1.kept k2 (by decide)) f2 hN2) rfl (wc_row (by decide)) (cwV 2 hC.2.2.2.2.1 gX1_holdsPlainProduct_X0_becomeRingProduct rfl rfl rfl (by decide +kernel) ⟨Nat.le_of_ble_eq_true rfl, Nat.le_of_ble_eq_true rfl⟩) rfl rfl (Nat.le_of_ble_eq_true rfl) dX1_holdsPlainProduct_28 ⟨Nat.le_of_ble_eq_true rfl, Nat.le_of_ble_eq_true rfl⟩ (fun v w1 hp => ?_)
  obtain ⟨rfl, τ3, rfl, k3, f3⟩ := hp
  refine gStk (st' := []) (pc' := 31) rfl rfl ?_
  refine gAloadN (pc := 31) hC dX1_holdsPlainProduct_31 rfl 0 rfl ?_
  refine cGetRow (pc := 32) hC 4 (by decide) rfl hin1 hl26 dX1_holdsPlainProduct_32 ?_
  refine gAloadN (pc := 35) hC dX1_holdsPlainProduct_35 rfl 1 rfl ?_
  refine gAloadN (pc := 36) hC dX1_holdsPlainProduct_36 rfl 2 rfl ?_
  refine gV (pc := 37) (rest := []) (ci := 0) (q0 := 2 + 2 * 7) hC (c_X0_becomePlainProduct l D L τ3 7 i0 j0 n F G (by decide) (by omega) (by omega) (by omega) (by omega) (((hF.kept k1 (by omega)).kept k2 (by omega)).kept k3 (by omega)) (((hG.kept k1 (by omega)).kept k2 (by omega)).kept k3 (by omega)) hn8) rfl (wc_row (by decide)) (cwV 2 hC.2.2.2.2.1 gX1_holdsPlainProduct_X0_becomePlainProduct rfl rfl rfl (by decide +kernel) ⟨Nat.le_of_ble_eq_true rfl, Nat.le_of_ble_eq_true rfl⟩) rfl rfl (Nat.le_of_ble_eq_true rfl) dX1_holdsPlainProduct_37 ⟨Nat.le_of_ble_eq_true rfl, Nat.le_of_ble_eq_true rfl⟩ (fun v w1 hp => ?_)
  obtain ⟨rfl, τ4, rfl, k4, f4⟩ := hp
  refine gStk (st' := []) (pc' := 40) rfl rfl ?_
  refine gAloadN (pc := 40) hC dX1_holdsPlainProduct_40 rfl 0 rfl ?_
  refine cGetRow (pc := 41) hC 5 (by decide) rfl hin1 hl29 dX1_holdsPlainProduct_41 ?_
  refine gAloadN (pc := 44) hC dX1_holdsPlainProduct_44 rfl 0 rfl ?_
  refine cGetRow (pc := 45) hC 4 (by decide) rfl hin1 hl26 dX1_holdsPlainProduct_45 ?_
  refine gV (pc := 48) (rest := []) (ci := 0) (q0 := 2 + 2 * 8) hC (c_X0_isLike l D L τ4 8 7 (2 * n) (by decide) (by decide) (f3.kept k4 (by decide)).1 (by omega)) rfl (wc_row (by decide)) (cwV 1 hC.2.2.2.2.1 gX1_holdsPlainProduct_X0_isLike rfl rfl rfl (by decide +kernel) ⟨Nat.le_of_ble_eq_true rfl, Nat.le_of_ble_eq_true rfl⟩) rfl rfl (Nat.le_of_ble_eq_true rfl) dX1_holdsPlainProduct_48 ⟨Nat.le_of_ble_eq_true rfl, Nat.le_of_ble_eq_true rfl⟩ (fun v w1 hp => ?_)
  obtain ⟨rfl, b1, rfl, hb1⟩ := hp
  refine gStk (st' := [.int b1]) (pc' := 51) rfl rfl ?_
  have eb1 : b1 = nI 1 := by
    rcases hb1 with z | z
    · exact z.1
    · exact absurd (like_of (f3.kept k4 (by decide)) f4 (fun j hj => rp_ext F G hj)) z.2
  subst eb1
  refine gStk (st' := [.int (nI 1)]) (pc' := 51) rfl rfl ?_
  refine gIf_eq (pc := 51) hC (tgt := 78) dX1_holdsPlainProduct_51 (by decide) (fun hc2 => absurd hc2 (by decide)) (fun hc2 => ?_)
  refine gAloadN (pc := 54) hC dX1_holdsPlainProduct_54 rfl 0 rfl ?_
  refine cGetRow (pc := 55) hC 4 (by decide) rfl hin1 hl26 dX1_holdsPlainProduct_55 ?_
  refine cGetNums (pc := 58) hC (K := 7) (by decide) hin0 hl60 dX1_holdsPlainProduct_58 ?_
  refine gAloadN (pc := 61) hC dX1_holdsPlainProduct_61 rfl 0 rfl ?_
  refine cGetRow (pc := 62) hC 4 (by decide) rfl hin1 hl26 dX1_holdsPlainProduct_62 ?_
  refine cGetSize (pc := 65) hC (K := 7) (v := (nI (2 * n))) (by decide) hin0 hl47 (f4.1) dX1_holdsPlainProduct_65 ?_
  refine gIconst (pc := 68) hC (v := (nI 1)) dX1_holdsPlainProduct_68 (by decide +kernel) ?_
  refine gIsub (pc := 69) hC (v := (nI (2 * n - 1))) dX1_holdsPlainProduct_69 (pk_sub (by omega)) ?_
  refine cNumLd (pc := 70) hC (K := 7) (v := (nI 0)) (by decide) (2 * n - 1) (rfl) (by omega) (by rw [f4.2 _ (by omega), pp_last F G hp]; rfl) dX1_holdsPlainProduct_70 ?_
  refine gIf_ne (pc := 71) hC (tgt := 78) dX1_holdsPlainProduct_71 (by decide) (fun hc3 => absurd (by decide) hc3) (fun hc3 => ?_)
  refine gIconst (pc := 74) hC (v := (nI 1)) dX1_holdsPlainProduct_74 (by decide +kernel) ?_
  refine gGoto (pc := 75) hC (tgt := 79) dX1_holdsPlainProduct_75 (by decide) ?_
  exact gRetZ hC hQ hr (rfl) (Nat.le_of_ble_eq_true rfl) (Nat.le_of_ble_eq_true rfl) dX1_holdsPlainProduct_79 (⟨rfl, τ4, rfl, (((((cKeep.rf σ _).tr (cKeep.of k1 (fun q hq => by omega) : cKeep _ _ (fun q => q < 4))).tr (cKeep.of k2 (fun q hq => by omega) : cKeep _ _ (fun q => q < 4))).tr (cKeep.of k3 (fun q hq => by omega) : cKeep _ _ (fun q => q < 4))).tr (cKeep.of k4 (fun q hq => by omega) : cKeep _ _ (fun q => q < 4)))⟩)

abbrev rmX1_holdsShifted : Room := { frames := 4, cells := 0, slots := 0, locals := 93 }
set_option maxRecDepth 100000 in
set_option maxHeartbeats 4000000 in
theorem c_X1_holdsShifted (l : Launch) (D : va_G) (L : cLay) (σ : cSt) (i0 n o : Nat) (F : Nat → Rg) (y : Int32) (hi0 : i0 < 4) (hF : rowIs σ i0 n F) (hn : okL n) (hodd : σ.1 = nI o) (hoo : okO o) : gM l yX1_holdsShifted wsX1_holdsShifted rmX1_holdsShifted D (cTy L) (WC L σ) [.ref (lx L), .ref (la L i0), .int y] 0 0 (fun r w => r = some (.int (nI 1)) ∧ ∃ σ', w = WC L σ' ∧ cKeep σ σ' (fun q => q < 4)) := by
  refine gM.of (cc := cX1_holdsShifted) (maxL := 3) (ret := (some .boolean)) (own := RX1) (by decide) rfl rfl (Nat.le_of_ble_eq_true rfl) rfl ?_
  intro p e s m args below meth c A Q hC hr hnm hQ
  have hin1 : ∀ w ∈ u_ws RX1 TX1 8, w ∈ wsX1_holdsShifted := by decide +kernel
  have hl16 : Cond.fieldLink RX1 16 "Rootrows" "left" "LRootrows$Row;" ∈ wsX1_holdsShifted := by decide +kernel
  have hl20 : Cond.fieldLink RX1 20 "Rootrows" "right" "LRootrows$Row;" ∈ wsX1_holdsShifted := by decide +kernel
  have hl26 : Cond.fieldLink RX1 26 "Rootrows" "wanted" "LRootrows$Row;" ∈ wsX1_holdsShifted := by decide +kernel
  have hl29 : Cond.fieldLink RX1 29 "Rootrows" "found" "LRootrows$Row;" ∈ wsX1_holdsShifted := by decide +kernel
  have hN := hn.N
  have hL := hn.le
  refine gAloadN (pc := 0) hC dX1_holdsShifted_0 rfl 0 rfl ?_
  refine cGetRow (pc := 1) hC 1 (by decide) rfl hin1 hl16 dX1_holdsShifted_1 ?_
  refine gAloadN (pc := 4) hC dX1_holdsShifted_4 rfl 1 rfl ?_
  refine gIloadN (pc := 5) hC dX1_holdsShifted_5 rfl 2 rfl ?_
  refine gV (pc := 6) (rest := []) (ci := 0) (q0 := 2 + 2 * 4) hC (c_X0_becomeShifted l D L σ 4 i0 n F y (by decide) (by omega) (by omega) hF hN) rfl (wc_row (by decide)) (cwV 2 hC.2.2.2.2.1 gX1_holdsShifted_X0_becomeShifted rfl rfl rfl (by decide +kernel) ⟨Nat.le_of_ble_eq_true rfl, Nat.le_of_ble_eq_true rfl⟩) rfl rfl (Nat.le_of_ble_eq_true rfl) dX1_holdsShifted_6 ⟨Nat.le_of_ble_eq_true rfl, Nat.le_of_ble_eq_true rfl⟩ (fun v w1 hp => ?_)
  obtain ⟨rfl, τ1, rfl, k1, f1⟩ := hp
  refine gStk (st' := []) (pc' := 9) rfl rfl ?_
  refine gAloadN (pc := 9) hC dX1_holdsShifted_9 rfl 0 rfl ?_
  refine gAloadN (pc := 10) hC dX1_holdsShifted_10 rfl 0 rfl ?_
  refine cGetRow (pc := 11) hC 1 (by decide) rfl hin1 hl16 dX1_holdsShifted_11 ?_
  refine gAloadN (pc := 14) hC dX1_holdsShifted_14 rfl 0 rfl ?_
  refine cGetRow (pc := 15) hC 5 (by decide) rfl hin1 hl29 dX1_holdsShifted_15 ?_
  refine gV (pc := 18) (rest := []) (ci := 1) (q0 := 0) hC (c_X1_plainValues l D L τ1 4 8 n o (fun i => F (ix n ((i : Int) - y.toInt))) (by decide) (by decide) (by decide) f1 hN (k1.1.trans hodd)) rfl rfl (cwV 2 hC.2.2.2.2.1 gX1_holdsShifted_X1_plainValues rfl rfl rfl (by decide +kernel) ⟨Nat.le_of_ble_eq_true rfl, Nat.le_of_ble_eq_true rfl⟩) rfl rfl (Nat.le_of_ble_eq_true rfl) dX1_holdsShifted_18 ⟨Nat.le_of_ble_eq_true rfl, Nat.le_of_ble_eq_true rfl⟩ (fun v w1 hp => ?_)
  obtain ⟨rfl, τ2, rfl, k2, f2⟩ := hp
  refine gStk (st' := []) (pc' := 21) rfl rfl ?_
  refine gAloadN (pc := 21) hC dX1_holdsShifted_21 rfl 0 rfl ?_
  refine gAloadN (pc := 22) hC dX1_holdsShifted_22 rfl 1 rfl ?_
  refine gAloadN (pc := 23) hC dX1_holdsShifted_23 rfl 0 rfl ?_
  refine cGetRow (pc := 24) hC 2 (by decide) rfl hin1 hl20 dX1_holdsShifted_24 ?_
  refine gV (pc := 27) (rest := []) (ci := 1) (q0 := 0) hC (c_X1_plainValues l D L τ2 i0 5 n o F (by decide) (by omega) (by omega) ((hF.kept k1 (by omega)).kept k2 (by omega)) hN (k2.1.trans (k1.1.trans hodd))) rfl rfl (cwV 2 hC.2.2.2.2.1 gX1_holdsShifted_X1_plainValues rfl rfl rfl (by decide +kernel) ⟨Nat.le_of_ble_eq_true rfl, Nat.le_of_ble_eq_true rfl⟩) rfl rfl (Nat.le_of_ble_eq_true rfl) dX1_holdsShifted_27 ⟨Nat.le_of_ble_eq_true rfl, Nat.le_of_ble_eq_true rfl⟩ (fun v w1 hp => ?_)
  obtain ⟨rfl, τ3, rfl, k3, f3⟩ := hp
  refine gStk (st' := []) (pc' := 30) rfl rfl ?_
  refine gAloadN (pc := 30) hC dX1_holdsShifted_30 rfl 0 rfl ?_
  refine gAloadN (pc := 31) hC dX1_holdsShifted_31 rfl 0 rfl ?_
  refine cGetRow (pc := 32) hC 2 (by decide) rfl hin1 hl20 dX1_holdsShifted_32 ?_
  refine gIloadN (pc := 35) hC dX1_holdsShifted_35 rfl 2 rfl ?_
  refine gAloadN (pc := 36) hC dX1_holdsShifted_36 rfl 0 rfl ?_
  refine cGetRow (pc := 37) hC 4 (by decide) rfl hin1 hl26 dX1_holdsShifted_37 ?_
  refine gV (pc := 40) (rest := []) (ci := 1) (q0 := 0) hC (c_X1_weighedRow l D L τ3 5 7 n o (ps n (un o n) 1 F) y (by decide) (by decide) (by decide) f3 hN (k3.1.trans (k2.1.trans (k1.1.trans hodd)))) rfl rfl (cwV 3 hC.2.2.2.2.1 gX1_holdsShifted_X1_weighedRow rfl rfl rfl (by decide +kernel) ⟨Nat.le_of_ble_eq_true rfl, Nat.le_of_ble_eq_true rfl⟩) rfl rfl (Nat.le_of_ble_eq_true rfl) dX1_holdsShifted_40 ⟨Nat.le_of_ble_eq_true rfl, Nat.le_of_ble_eq_true rfl⟩ (fun v w1 hp => ?_)
  obtain ⟨rfl, τ4, rfl, k4, f4⟩ := hp
  refine gStk (st' := []) (pc' := 43) rfl rfl ?_
  refine gAloadN (pc := 43) hC dX1_holdsShifted_43 rfl 0 rfl ?_
  refine cGetRow (pc := 44) hC 5 (by decide) rfl hin1 hl29 dX1_holdsShifted_44 ?_
  refine gAloadN (pc := 47) hC dX1_holdsShifted_47 rfl 0 rfl ?_
  refine cGetRow (pc := 48) hC 4 (by decide) rfl hin1 hl26 dX1_holdsShifted_48 ?_
  refine gV (pc := 51) (rest := []) (ci := 0) (q0 := 2 + 2 * 8) hC (c_X0_isLike l D L τ4 8 7 n (by decide) (by decide) ((f2.kept k3 (by decide)).kept k4 (by decide)).1 hL) rfl (wc_row (by decide)) (cwV 1 hC.2.2.2.2.1 gX1_holdsShifted_X0_isLike rfl rfl rfl (by decide +kernel) ⟨Nat.le_of_ble_eq_true rfl, Nat.le_of_ble_eq_true rfl⟩) rfl rfl (Nat.le_of_ble_eq_true rfl) dX1_holdsShifted_51 ⟨Nat.le_of_ble_eq_true rfl, Nat.le_of_ble_eq_true rfl⟩ (fun v w1 hp => ?_)
  obtain ⟨rfl, b1, rfl, hb1⟩ := hp
  refine gStk (st' := [.int b1]) (pc' := 54) rfl rfl ?_
  have eb1 : b1 = nI 1 := by
    rcases hb1 with z | z
    · exact z.1
    · exact absurd (like_of ((f2.kept k3 (by decide)).kept k4 (by decide)) f4 (fun j hj => ps_shift hN F y.toInt j)) z.2
  subst eb1
  refine gStk (st' := [.int (nI 1)]) (pc' := 54) rfl rfl ?_
  exact gRetZ hC hQ hr (rfl) (Nat.le_of_ble_eq_true rfl) (Nat.le_of_ble_eq_true rfl) dX1_holdsShifted_54 (⟨rfl, τ4, rfl, (((((cKeep.rf σ _).tr (cKeep.of k1 (fun q hq => by omega) : cKeep _ _ (fun q => q < 4))).tr (cKeep.of k2 (fun q hq => by omega) : cKeep _ _ (fun q => q < 4))).tr (cKeep.of k3 (fun q hq => by omega) : cKeep _ _ (fun q => q < 4))).tr (cKeep.of k4 (fun q hq => by omega) : cKeep _ _ (fun q => q < 4)))⟩)

theorem ix_neg {n : Nat} (hn : okN n) (y : Int32) (j : Nat) : ix n ((j : Int) + y.toInt) = ix n ((j : Int) - (-y).toInt) := by
  have h := j_negI y
  apply ix_cong
  rcases hn with rfl | rfl | rfl | rfl | rfl <;> omega

abbrev rmX1_holdsWeighed : Room := { frames := 4, cells := 0, slots := 0, locals := 93 }
set_option maxRecDepth 100000 in
set_option maxHeartbeats 4000000 in
theorem c_X1_holdsWeighed (l : Launch) (D : va_G) (L : cLay) (σ : cSt) (i0 n o : Nat) (F : Nat → Rg) (y : Int32) (hi0 : i0 < 4) (hF : rowIs σ i0 n F) (hn : okL n) (hodd : σ.1 = nI o) (hoo : okO o) : gM l yX1_holdsWeighed wsX1_holdsWeighed rmX1_holdsWeighed D (cTy L) (WC L σ) [.ref (lx L), .ref (la L i0), .int y] 0 0 (fun r w => r = some (.int (nI 1)) ∧ ∃ σ', w = WC L σ' ∧ cKeep σ σ' (fun q => q < 4)) := by
  refine gM.of (cc := cX1_holdsWeighed) (maxL := 3) (ret := (some .boolean)) (own := RX1) (by decide) rfl rfl (Nat.le_of_ble_eq_true rfl) rfl ?_
  intro p e s m args below meth c A Q hC hr hnm hQ
  have hin1 : ∀ w ∈ u_ws RX1 TX1 8, w ∈ wsX1_holdsWeighed := by decide +kernel
  have hl16 : Cond.fieldLink RX1 16 "Rootrows" "left" "LRootrows$Row;" ∈ wsX1_holdsWeighed := by decide +kernel
  have hl20 : Cond.fieldLink RX1 20 "Rootrows" "right" "LRootrows$Row;" ∈ wsX1_holdsWeighed := by decide +kernel
  have hl26 : Cond.fieldLink RX1 26 "Rootrows" "wanted" "LRootrows$Row;" ∈ wsX1_holdsWeighed := by decide +kernel
  have hl29 : Cond.fieldLink RX1 29 "Rootrows" "found" "LRootrows$Row;" ∈ wsX1_holdsWeighed := by decide +kernel
  have hN := hn.N
  have hL := hn.le
  refine gAloadN (pc := 0) hC dX1_holdsWeighed_0 rfl 0 rfl ?_
  refine gAloadN (pc := 1) hC dX1_holdsWeighed_1 rfl 1 rfl ?_
  refine gIloadN (pc := 2) hC dX1_holdsWeighed_2 rfl 2 rfl ?_
  refine gAloadN (pc := 3) hC dX1_holdsWeighed_3 rfl 0 rfl ?_
  refine cGetRow (pc := 4) hC 1 (by decide) rfl hin1 hl16 dX1_holdsWeighed_4 ?_
  refine gV (pc := 7) (rest := []) (ci := 1) (q0 := 0) hC (c_X1_weighedRow l D L σ i0 4 n o F y (by decide) (by omega) (by omega) hF hN hodd) rfl rfl (cwV 3 hC.2.2.2.2.1 gX1_holdsWeighed_X1_weighedRow rfl rfl rfl (by decide +kernel) ⟨Nat.le_of_ble_eq_true rfl, Nat.le_of_ble_eq_true rfl⟩) rfl rfl (Nat.le_of_ble_eq_true rfl) dX1_holdsWeighed_7 ⟨Nat.le_of_ble_eq_true rfl, Nat.le_of_ble_eq_true rfl⟩ (fun v w1 hp => ?_)
  obtain ⟨rfl, τ1, rfl, k1, f1⟩ := hp
  refine gStk (st' := []) (pc' := 10) rfl rfl ?_
  refine gAloadN (pc := 10) hC dX1_holdsWeighed_10 rfl 0 rfl ?_
  refine gAloadN (pc := 11) hC dX1_holdsWeighed_11 rfl 0 rfl ?_
  refine cGetRow (pc := 12) hC 1 (by decide) rfl hin1 hl16 dX1_holdsWeighed_12 ?_
  refine gAloadN (pc := 15) hC dX1_holdsWeighed_15 rfl 0 rfl ?_
  refine cGetRow (pc := 16) hC 5 (by decide) rfl hin1 hl29 dX1_holdsWeighed_16 ?_
  refine gV (pc := 19) (rest := []) (ci := 1) (q0 := 0) hC (c_X1_plainValues l D L τ1 4 8 n o (fun i => F i * pz (un o n * (y.toInt * i))) (by decide) (by decide) (by decide) f1 hN (k1.1.trans hodd)) rfl rfl (cwV 2 hC.2.2.2.2.1 gX1_holdsWeighed_X1_plainValues rfl rfl rfl (by decide +kernel) ⟨Nat.le_of_ble_eq_true rfl, Nat.le_of_ble_eq_true rfl⟩) rfl rfl (Nat.le_of_ble_eq_true rfl) dX1_holdsWeighed_19 ⟨Nat.le_of_ble_eq_true rfl, Nat.le_of_ble_eq_true rfl⟩ (fun v w1 hp => ?_)
  obtain ⟨rfl, τ2, rfl, k2, f2⟩ := hp
  refine gStk (st' := []) (pc' := 22) rfl rfl ?_
  refine gAloadN (pc := 22) hC dX1_holdsWeighed_22 rfl 0 rfl ?_
  refine gAloadN (pc := 23) hC dX1_holdsWeighed_23 rfl 1 rfl ?_
  refine gAloadN (pc := 24) hC dX1_holdsWeighed_24 rfl 0 rfl ?_
  refine cGetRow (pc := 25) hC 2 (by decide) rfl hin1 hl20 dX1_holdsWeighed_25 ?_
  refine gV (pc := 28) (rest := []) (ci := 1) (q0 := 0) hC (c_X1_plainValues l D L τ2 i0 5 n o F (by decide) (by omega) (by omega) ((hF.kept k1 (by omega)).kept k2 (by omega)) hN (k2.1.trans (k1.1.trans hodd))) rfl rfl (cwV 2 hC.2.2.2.2.1 gX1_holdsWeighed_X1_plainValues rfl rfl rfl (by decide +kernel) ⟨Nat.le_of_ble_eq_true rfl, Nat.le_of_ble_eq_true rfl⟩) rfl rfl (Nat.le_of_ble_eq_true rfl) dX1_holdsWeighed_28 ⟨Nat.le_of_ble_eq_true rfl, Nat.le_of_ble_eq_true rfl⟩ (fun v w1 hp => ?_)
  obtain ⟨rfl, τ3, rfl, k3, f3⟩ := hp
  refine gStk (st' := []) (pc' := 31) rfl rfl ?_
  refine gAloadN (pc := 31) hC dX1_holdsWeighed_31 rfl 0 rfl ?_
  refine cGetRow (pc := 32) hC 4 (by decide) rfl hin1 hl26 dX1_holdsWeighed_32 ?_
  refine gAloadN (pc := 35) hC dX1_holdsWeighed_35 rfl 0 rfl ?_
  refine cGetRow (pc := 36) hC 2 (by decide) rfl hin1 hl20 dX1_holdsWeighed_36 ?_
  refine gIloadN (pc := 39) hC dX1_holdsWeighed_39 rfl 2 rfl ?_
  refine gIneg (pc := 40) hC dX1_holdsWeighed_40 rfl ?_
  refine gV (pc := 41) (rest := []) (ci := 0) (q0 := 2 + 2 * 7) hC (c_X0_becomeShifted l D L τ3 7 5 n (ps n (un o n) 1 F) (-y) (by decide) (by decide) (by decide) f3 hN) rfl (wc_row (by decide)) (cwV 2 hC.2.2.2.2.1 gX1_holdsWeighed_X0_becomeShifted rfl rfl rfl (by decide +kernel) ⟨Nat.le_of_ble_eq_true rfl, Nat.le_of_ble_eq_true rfl⟩) rfl rfl (Nat.le_of_ble_eq_true rfl) dX1_holdsWeighed_41 ⟨Nat.le_of_ble_eq_true rfl, Nat.le_of_ble_eq_true rfl⟩ (fun v w1 hp => ?_)
  obtain ⟨rfl, τ4, rfl, k4, f4⟩ := hp
  refine gStk (st' := []) (pc' := 44) rfl rfl ?_
  refine gAloadN (pc := 44) hC dX1_holdsWeighed_44 rfl 0 rfl ?_
  refine cGetRow (pc := 45) hC 5 (by decide) rfl hin1 hl29 dX1_holdsWeighed_45 ?_
  refine gAloadN (pc := 48) hC dX1_holdsWeighed_48 rfl 0 rfl ?_
  refine cGetRow (pc := 49) hC 4 (by decide) rfl hin1 hl26 dX1_holdsWeighed_49 ?_
  refine gV (pc := 52) (rest := []) (ci := 0) (q0 := 2 + 2 * 8) hC (c_X0_isLike l D L τ4 8 7 n (by decide) (by decide) ((f2.kept k3 (by decide)).kept k4 (by decide)).1 hL) rfl (wc_row (by decide)) (cwV 1 hC.2.2.2.2.1 gX1_holdsWeighed_X0_isLike rfl rfl rfl (by decide +kernel) ⟨Nat.le_of_ble_eq_true rfl, Nat.le_of_ble_eq_true rfl⟩) rfl rfl (Nat.le_of_ble_eq_true rfl) dX1_holdsWeighed_52 ⟨Nat.le_of_ble_eq_true rfl, Nat.le_of_ble_eq_true rfl⟩ (fun v w1 hp => ?_)
  obtain ⟨rfl, b1, rfl, hb1⟩ := hp
  refine gStk (st' := [.int b1]) (pc' := 55) rfl rfl ?_
  have eb1 : b1 = nI 1 := by
    rcases hb1 with z | z
    · exact z.1
    · exact absurd (like_of ((f2.kept k3 (by decide)).kept k4 (by decide)) f4 (fun j hj => (ps_weigh hN F y.toInt j).trans (congrArg _ (ix_neg hN y j)))) z.2
  subst eb1
  refine gStk (st' := [.int (nI 1)]) (pc' := 55) rfl rfl ?_
  exact gRetZ hC hQ hr (rfl) (Nat.le_of_ble_eq_true rfl) (Nat.le_of_ble_eq_true rfl) dX1_holdsWeighed_55 (⟨rfl, τ4, rfl, (((((cKeep.rf σ _).tr (cKeep.of k1 (fun q hq => by omega) : cKeep _ _ (fun q => q < 4))).tr (cKeep.of k2 (fun q hq => by omega) : cKeep _ _ (fun q => q < 4))).tr (cKeep.of k3 (fun q hq => by omega) : cKeep _ _ (fun q => q < 4))).tr (cKeep.of k4 (fun q hq => by omega) : cKeep _ _ (fun q => q < 4)))⟩)

theorem dot_eq {o n : Nat} (ho : okO o) (hn : okN n) (F G : Nat → Rg) : nI (nR n * sg n (fun i => F i * G (ix n (if nI 1 = 0 then (i : Int) else -(i : Int))))).val = nI (sg n (fun i => ps n (un o n) 1 F i * ps n (un o n) 1 G (ix n (if nI 0 = 0 then (i : Int) else -(i : Int))))).val := by
  have e1 : ¬ nI 1 = 0 := by decide
  have e2 : nI 0 = 0 := by decide
  simp only [if_neg e1, if_pos e2]
  rw [ps_dot ho hn F G]
  exact congrArg (fun z : Rg => nI z.val) (sg_c (fun i hi => by rw [ix_of hi]))

abbrev rmX1_holdsSumOfProducts : Room := { frames := 4, cells := 0, slots := 0, locals := 93 }
set_option maxRecDepth 100000 in
set_option maxHeartbeats 4000000 in
theorem c_X1_holdsSumOfProducts (l : Launch) (D : va_G) (L : cLay) (σ : cSt) (i0 j0 n o : Nat) (F G : Nat → Rg) (hi0 : i0 < 4) (hj0 : j0 < 4) (hF : rowIs σ i0 n F) (hG : rowIs σ j0 n G) (hn : okL n) (hodd : σ.1 = nI o) (hoo : okO o) : gM l yX1_holdsSumOfProducts wsX1_holdsSumOfProducts rmX1_holdsSumOfProducts D (cTy L) (WC L σ) [.ref (lx L), .ref (la L i0), .ref (la L j0)] 0 0 (fun r w => r = some (.int (nI 1)) ∧ ∃ σ', w = WC L σ' ∧ cKeep σ σ' (fun q => q < 4)) := by
  refine gM.of (cc := cX1_holdsSumOfProducts) (maxL := 3) (ret := (some .boolean)) (own := RX1) (by decide) rfl rfl (Nat.le_of_ble_eq_true rfl) rfl ?_
  intro p e s m args below meth c A Q hC hr hnm hQ
  have hin0 : ∀ w ∈ u_ws RX0 TX0 2, w ∈ wsX1_holdsSumOfProducts := by decide +kernel
  have hin1 : ∀ w ∈ u_ws RX1 TX1 8, w ∈ wsX1_holdsSumOfProducts := by decide +kernel
  have hl16 : Cond.fieldLink RX1 16 "Rootrows" "left" "LRootrows$Row;" ∈ wsX1_holdsSumOfProducts := by decide +kernel
  have hl20 : Cond.fieldLink RX1 20 "Rootrows" "right" "LRootrows$Row;" ∈ wsX1_holdsSumOfProducts := by decide +kernel
  have hl47 : Cond.fieldLink RX1 47 "Rootrows$Row" "size" "I" ∈ wsX1_holdsSumOfProducts := by decide +kernel
  have hN := hn.N
  have hL := hn.le
  refine gAloadN (pc := 0) hC dX1_holdsSumOfProducts_0 rfl 0 rfl ?_
  refine gAloadN (pc := 1) hC dX1_holdsSumOfProducts_1 rfl 1 rfl ?_
  refine gAloadN (pc := 2) hC dX1_holdsSumOfProducts_2 rfl 0 rfl ?_
  refine cGetRow (pc := 3) hC 1 (by decide) rfl hin1 hl16 dX1_holdsSumOfProducts_3 ?_
  refine gV (pc := 6) (rest := []) (ci := 1) (q0 := 0) hC (c_X1_plainValues l D L σ i0 4 n o F (by decide) (by omega) (by omega) hF hN hodd) rfl rfl (cwV 2 hC.2.2.2.2.1 gX1_holdsSumOfProducts_X1_plainValues rfl rfl rfl (by decide +kernel) ⟨Nat.le_of_ble_eq_true rfl, Nat.le_of_ble_eq_true rfl⟩) rfl rfl (Nat.le_of_ble_eq_true rfl) dX1_holdsSumOfProducts_6 ⟨Nat.le_of_ble_eq_true rfl, Nat.le_of_ble_eq_true rfl⟩ (fun v w1 hp => ?_)
  obtain ⟨rfl, τ1, rfl, k1, f1⟩ := hp
  refine gStk (st' := []) (pc' := 9) rfl rfl ?_
  refine gAloadN (pc := 9) hC dX1_holdsSumOfProducts_9 rfl 0 rfl ?_
  refine gAloadN (pc := 10) hC dX1_holdsSumOfProducts_10 rfl 2 rfl ?_
  refine gAloadN (pc := 11) hC dX1_holdsSumOfProducts_11 rfl 0 rfl ?_
  refine cGetRow (pc := 12) hC 2 (by decide) rfl hin1 hl20 dX1_holdsSumOfProducts_12 ?_
  refine gV (pc := 15) (rest := []) (ci := 1) (q0 := 0) hC (c_X1_plainValues l D L τ1 j0 5 n o G (by decide) (by omega) (by omega) (hG.kept k1 (by omega)) hN (k1.1.trans hodd)) rfl rfl (cwV 2 hC.2.2.2.2.1 gX1_holdsSumOfProducts_X1_plainValues rfl rfl rfl (by decide +kernel) ⟨Nat.le_of_ble_eq_true rfl, Nat.le_of_ble_eq_true rfl⟩) rfl rfl (Nat.le_of_ble_eq_true rfl) dX1_holdsSumOfProducts_15 ⟨Nat.le_of_ble_eq_true rfl, Nat.le_of_ble_eq_true rfl⟩ (fun v w1 hp => ?_)
  obtain ⟨rfl, τ2, rfl, k2, f2⟩ := hp
  refine gStk (st' := []) (pc' := 18) rfl rfl ?_
  refine gAloadN (pc := 18) hC dX1_holdsSumOfProducts_18 rfl 1 rfl ?_
  refine cGetSize (pc := 19) hC (K := i0) (v := (nI n)) (by omega) hin0 hl47 (((hF.kept k1 (by omega)).kept k2 (by omega)).1) dX1_holdsSumOfProducts_19 ?_
  refine gAloadN (pc := 22) hC dX1_holdsSumOfProducts_22 rfl 1 rfl ?_
  refine gAloadN (pc := 23) hC dX1_holdsSumOfProducts_23 rfl 2 rfl ?_
  refine gIconst (pc := 24) hC (v := (nI 1)) dX1_holdsSumOfProducts_24 (by decide +kernel) ?_
  refine gV (pc := 25) (rest := [.int (nI n)]) (ci := 0) (q0 := 2 + 2 * i0) hC (c_X0_sumOfProducts l D L τ2 i0 j0 n F G (nI 1) (by omega) (by omega) ((hF.kept k1 (by omega)).kept k2 (by omega)) ((hG.kept k1 (by omega)).kept k2 (by omega)) hN) rfl (wc_row (by omega)) (cwV 2 hC.2.2.2.2.1 gX1_holdsSumOfProducts_X0_sumOfProducts rfl rfl rfl (by decide +kernel) ⟨Nat.le_of_ble_eq_true rfl, Nat.le_of_ble_eq_true rfl⟩) rfl rfl (Nat.le_of_ble_eq_true rfl) dX1_holdsSumOfProducts_25 ⟨Nat.le_of_ble_eq_true rfl, Nat.le_of_ble_eq_true rfl⟩ (fun v w1 hp => ?_)
  obtain ⟨rfl, rfl⟩ := hp
  refine gStk (st' := [.int (nI (sg n (fun i => F i * G (ix n (if nI 1 = 0 then (i : Int) else -(i : Int))))).val), .int (nI n)]) (pc' := 28) rfl rfl ?_
  refine gS (pc := 28) (rest := []) hC (c_X1_multiplied l D _ _ _ _ (nR n) (sg n (fun i => F i * G (ix n (if nI 1 = 0 then (i : Int) else -(i : Int))))) (by rw [nR_val (by omega)]) rfl) (va_cwS 2 hC.2.2.2.2.1 gX1_holdsSumOfProducts_X1_multiplied rfl rfl rfl (by decide +kernel) ⟨Nat.le_of_ble_eq_true rfl, Nat.le_of_ble_eq_true rfl⟩) rfl rfl (Nat.le_of_ble_eq_true rfl) dX1_holdsSumOfProducts_28 ⟨Nat.le_of_ble_eq_true rfl, Nat.le_of_ble_eq_true rfl⟩ (fun v w1 hp => ?_)
  obtain ⟨rfl, rfl⟩ := hp
  refine gStk (st' := [.int (nI (nR n * sg n (fun i => F i * G (ix n (if nI 1 = 0 then (i : Int) else -(i : Int))))).val)]) (pc' := 31) rfl rfl ?_
  refine gAloadN (pc := 31) hC dX1_holdsSumOfProducts_31 rfl 0 rfl ?_
  refine cGetRow (pc := 32) hC 1 (by decide) rfl hin1 hl16 dX1_holdsSumOfProducts_32 ?_
  refine gAloadN (pc := 35) hC dX1_holdsSumOfProducts_35 rfl 0 rfl ?_
  refine cGetRow (pc := 36) hC 2 (by decide) rfl hin1 hl20 dX1_holdsSumOfProducts_36 ?_
  refine gIconst (pc := 39) hC (v := (nI 0)) dX1_holdsSumOfProducts_39 (by decide +kernel) ?_
  refine gV (pc := 40) (rest := [.int (nI (nR n * sg n (fun i => F i * G (ix n (if nI 1 = 0 then (i : Int) else -(i : Int))))).val)]) (ci := 0) (q0 := 2 + 2 * 4) hC (c_X0_sumOfProducts l D L τ2 4 5 n (ps n (un o n) 1 F) (ps n (un o n) 1 G) (nI 0) (by decide) (by decide) (f1.kept k2 (by decide)) f2 hN) rfl (wc_row (by decide)) (cwV 2 hC.2.2.2.2.1 gX1_holdsSumOfProducts_X0_sumOfProducts rfl rfl rfl (by decide +kernel) ⟨Nat.le_of_ble_eq_true rfl, Nat.le_of_ble_eq_true rfl⟩) rfl rfl (Nat.le_of_ble_eq_true rfl) dX1_holdsSumOfProducts_40 ⟨Nat.le_of_ble_eq_true rfl, Nat.le_of_ble_eq_true rfl⟩ (fun v w1 hp => ?_)
  obtain ⟨rfl, rfl⟩ := hp
  refine gStk (st' := [.int (nI (sg n (fun i => (ps n (un o n) 1 F) i * (ps n (un o n) 1 G) (ix n (if nI 0 = 0 then (i : Int) else -(i : Int))))).val), .int (nI (nR n * sg n (fun i => F i * G (ix n (if nI 1 = 0 then (i : Int) else -(i : Int))))).val)]) (pc' := 43) rfl rfl ?_
  refine gIcmp_ne (pc := 43) hC (tgt := 50) dX1_holdsSumOfProducts_43 (by decide) (fun hc1 => absurd (dot_eq hoo hN F G) hc1) (fun hc1 => ?_)
  refine gIconst (pc := 46) hC (v := (nI 1)) dX1_holdsSumOfProducts_46 (by decide +kernel) ?_
  refine gGoto (pc := 47) hC (tgt := 51) dX1_holdsSumOfProducts_47 (by decide) ?_
  exact gRetZ hC hQ hr (rfl) (Nat.le_of_ble_eq_true rfl) (Nat.le_of_ble_eq_true rfl) dX1_holdsSumOfProducts_51 (⟨rfl, τ2, rfl, (((cKeep.rf σ _).tr (cKeep.of k1 (fun q hq => by omega) : cKeep _ _ (fun q => q < 4))).tr (cKeep.of k2 (fun q hq => by omega) : cKeep _ _ (fun q => q < 4)))⟩)

abbrev rmX1_holdsSums : Room := { frames := 4, cells := 0, slots := 0, locals := 93 }
set_option maxRecDepth 100000 in
set_option maxHeartbeats 4000000 in
theorem c_X1_holdsSums (l : Launch) (D : va_G) (L : cLay) (σ : cSt) (i0 j0 n o : Nat) (F G : Nat → Rg) (hi0 : i0 < 4) (hj0 : j0 < 4) (hF : rowIs σ i0 n F) (hG : rowIs σ j0 n G) (hn : okL n) (hodd : σ.1 = nI o) (hoo : okO o) : gM l yX1_holdsSums wsX1_holdsSums rmX1_holdsSums D (cTy L) (WC L σ) [.ref (lx L), .ref (la L i0), .ref (la L j0)] 0 0 (fun r w => r = some (.int (nI 1)) ∧ ∃ σ', w = WC L σ' ∧ cKeep σ σ' (fun q => q < 4)) := by
  refine gM.of (cc := cX1_holdsSums) (maxL := 3) (ret := (some .boolean)) (own := RX1) (by decide) rfl rfl (Nat.le_of_ble_eq_true rfl) rfl ?_
  intro p e s m args below meth c A Q hC hr hnm hQ
  have hin1 : ∀ w ∈ u_ws RX1 TX1 8, w ∈ wsX1_holdsSums := by decide +kernel
  have hl16 : Cond.fieldLink RX1 16 "Rootrows" "left" "LRootrows$Row;" ∈ wsX1_holdsSums := by decide +kernel
  have hl20 : Cond.fieldLink RX1 20 "Rootrows" "right" "LRootrows$Row;" ∈ wsX1_holdsSums := by decide +kernel
  have hl23 : Cond.fieldLink RX1 23 "Rootrows" "mixed" "LRootrows$Row;" ∈ wsX1_holdsSums := by decide +kernel
  have hl26 : Cond.fieldLink RX1 26 "Rootrows" "wanted" "LRootrows$Row;" ∈ wsX1_holdsSums := by decide +kernel
  have hl29 : Cond.fieldLink RX1 29 "Rootrows" "found" "LRootrows$Row;" ∈ wsX1_holdsSums := by decide +kernel
  have hN := hn.N
  have hL := hn.le
  refine gAloadN (pc := 0) hC dX1_holdsSums_0 rfl 0 rfl ?_
  refine cGetRow (pc := 1) hC 3 (by decide) rfl hin1 hl23 dX1_holdsSums_1 ?_
  refine gAloadN (pc := 4) hC dX1_holdsSums_4 rfl 1 rfl ?_
  refine gAloadN (pc := 5) hC dX1_holdsSums_5 rfl 2 rfl ?_
  refine gV (pc := 6) (rest := []) (ci := 0) (q0 := 2 + 2 * 6) hC (c_X0_becomeSums l D L σ 6 i0 j0 n F G (by decide) (by omega) (by omega) hF hG hN) rfl (wc_row (by decide)) (cwV 2 hC.2.2.2.2.1 gX1_holdsSums_X0_becomeSums rfl rfl rfl (by decide +kernel) ⟨Nat.le_of_ble_eq_true rfl, Nat.le_of_ble_eq_true rfl⟩) rfl rfl (Nat.le_of_ble_eq_true rfl) dX1_holdsSums_6 ⟨Nat.le_of_ble_eq_true rfl, Nat.le_of_ble_eq_true rfl⟩ (fun v w1 hp => ?_)
  obtain ⟨rfl, τ1, rfl, k1, f1⟩ := hp
  refine gStk (st' := []) (pc' := 9) rfl rfl ?_
  refine gAloadN (pc := 9) hC dX1_holdsSums_9 rfl 0 rfl ?_
  refine gAloadN (pc := 10) hC dX1_holdsSums_10 rfl 0 rfl ?_
  refine cGetRow (pc := 11) hC 3 (by decide) rfl hin1 hl23 dX1_holdsSums_11 ?_
  refine gAloadN (pc := 14) hC dX1_holdsSums_14 rfl 0 rfl ?_
  refine cGetRow (pc := 15) hC 5 (by decide) rfl hin1 hl29 dX1_holdsSums_15 ?_
  refine gV (pc := 18) (rest := []) (ci := 1) (q0 := 0) hC (c_X1_plainValues l D L τ1 6 8 n o (fun i => F i + G i) (by decide) (by decide) (by decide) f1 hN (k1.1.trans hodd)) rfl rfl (cwV 2 hC.2.2.2.2.1 gX1_holdsSums_X1_plainValues rfl rfl rfl (by decide +kernel) ⟨Nat.le_of_ble_eq_true rfl, Nat.le_of_ble_eq_true rfl⟩) rfl rfl (Nat.le_of_ble_eq_true rfl) dX1_holdsSums_18 ⟨Nat.le_of_ble_eq_true rfl, Nat.le_of_ble_eq_true rfl⟩ (fun v w1 hp => ?_)
  obtain ⟨rfl, τ2, rfl, k2, f2⟩ := hp
  refine gStk (st' := []) (pc' := 21) rfl rfl ?_
  refine gAloadN (pc := 21) hC dX1_holdsSums_21 rfl 0 rfl ?_
  refine gAloadN (pc := 22) hC dX1_holdsSums_22 rfl 1 rfl ?_
  refine gAloadN (pc := 23) hC dX1_holdsSums_23 rfl 0 rfl ?_
  refine cGetRow (pc := 24) hC 1 (by decide) rfl hin1 hl16 dX1_holdsSums_24 ?_
  refine gV (pc := 27) (rest := []) (ci := 1) (q0 := 0) hC (c_X1_plainValues l D L τ2 i0 4 n o F (by decide) (by omega) (by omega) ((hF.kept k1 (by omega)).kept k2 (by omega)) hN (k2.1.trans (k1.1.trans hodd))) rfl rfl (cwV 2 hC.2.2.2.2.1 gX1_holdsSums_X1_plainValues rfl rfl rfl (by decide +kernel) ⟨Nat.le_of_ble_eq_true rfl, Nat.le_of_ble_eq_true rfl⟩) rfl rfl (Nat.le_of_ble_eq_true rfl) dX1_holdsSums_27 ⟨Nat.le_of_ble_eq_true rfl, Nat.le_of_ble_eq_true rfl⟩ (fun v w1 hp => ?_)
  obtain ⟨rfl, τ3, rfl, k3, f3⟩ := hp
  refine gStk (st' := []) (pc' := 30) rfl rfl ?_
  refine gAloadN (pc := 30) hC dX1_holdsSums_30 rfl 0 rfl ?_
  refine gAloadN (pc := 31) hC dX1_holdsSums_31 rfl 2 rfl ?_
  refine gAloadN (pc := 32) hC dX1_holdsSums_32 rfl 0 rfl ?_
  refine cGetRow (pc := 33) hC 2 (by decide) rfl hin1 hl20 dX1_holdsSums_33 ?_
  refine gV (pc := 36) (rest := []) (ci := 1) (q0 := 0) hC (c_X1_plainValues l D L τ3 j0 5 n o G (by decide) (by omega) (by omega) (((hG.kept k1 (by omega)).kept k2 (by omega)).kept k3 (by omega)) hN (k3.1.trans (k2.1.trans (k1.1.trans hodd)))) rfl rfl (cwV 2 hC.2.2.2.2.1 gX1_holdsSums_X1_plainValues rfl rfl rfl (by decide +kernel) ⟨Nat.le_of_ble_eq_true rfl, Nat.le_of_ble_eq_true rfl⟩) rfl rfl (Nat.le_of_ble_eq_true rfl) dX1_holdsSums_36 ⟨Nat.le_of_ble_eq_true rfl, Nat.le_of_ble_eq_true rfl⟩ (fun v w1 hp => ?_)
  obtain ⟨rfl, τ4, rfl, k4, f4⟩ := hp
  refine gStk (st' := []) (pc' := 39) rfl rfl ?_
  refine gAloadN (pc := 39) hC dX1_holdsSums_39 rfl 0 rfl ?_
  refine cGetRow (pc := 40) hC 4 (by decide) rfl hin1 hl26 dX1_holdsSums_40 ?_
  refine gAloadN (pc := 43) hC dX1_holdsSums_43 rfl 0 rfl ?_
  refine cGetRow (pc := 44) hC 1 (by decide) rfl hin1 hl16 dX1_holdsSums_44 ?_
  refine gAloadN (pc := 47) hC dX1_holdsSums_47 rfl 0 rfl ?_
  refine cGetRow (pc := 48) hC 2 (by decide) rfl hin1 hl20 dX1_holdsSums_48 ?_
  refine gV (pc := 51) (rest := []) (ci := 0) (q0 := 2 + 2 * 7) hC (c_X0_becomeSums l D L τ4 7 4 5 n (ps n (un o n) 1 F) (ps n (un o n) 1 G) (by decide) (by decide) (by decide) (f3.kept k4 (by decide)) f4 hN) rfl (wc_row (by decide)) (cwV 2 hC.2.2.2.2.1 gX1_holdsSums_X0_becomeSums rfl rfl rfl (by decide +kernel) ⟨Nat.le_of_ble_eq_true rfl, Nat.le_of_ble_eq_true rfl⟩) rfl rfl (Nat.le_of_ble_eq_true rfl) dX1_holdsSums_51 ⟨Nat.le_of_ble_eq_true rfl, Nat.le_of_ble_eq_true rfl⟩ (fun v w1 hp => ?_)
  obtain ⟨rfl, τ5, rfl, k5, f5⟩ := hp
  refine gStk (st' := []) (pc' := 54) rfl rfl ?_
  refine gAloadN (pc := 54) hC dX1_holdsSums_54 rfl 0 rfl ?_
  refine cGetRow (pc := 55) hC 5 (by decide) rfl hin1 hl29 dX1_holdsSums_55 ?_
  refine gAloadN (pc := 58) hC dX1_holdsSums_58 rfl 0 rfl ?_
  refine cGetRow (pc := 59) hC 4 (by decide) rfl hin1 hl26 dX1_holdsSums_59 ?_
  refine gV (pc := 62) (rest := []) (ci := 0) (q0 := 2 + 2 * 8) hC (c_X0_isLike l D L τ5 8 7 n (by decide) (by decide) (((f2.kept k3 (by decide)).kept k4 (by decide)).kept k5 (by decide)).1 hL) rfl (wc_row (by decide)) (cwV 1 hC.2.2.2.2.1 gX1_holdsSums_X0_isLike rfl rfl rfl (by decide +kernel) ⟨Nat.le_of_ble_eq_true rfl, Nat.le_of_ble_eq_true rfl⟩) rfl rfl (Nat.le_of_ble_eq_true rfl) dX1_holdsSums_62 ⟨Nat.le_of_ble_eq_true rfl, Nat.le_of_ble_eq_true rfl⟩ (fun v w1 hp => ?_)
  obtain ⟨rfl, b1, rfl, hb1⟩ := hp
  refine gStk (st' := [.int b1]) (pc' := 65) rfl rfl ?_
  have eb1 : b1 = nI 1 := by
    rcases hb1 with z | z
    · exact z.1
    · exact absurd (like_of (((f2.kept k3 (by decide)).kept k4 (by decide)).kept k5 (by decide)) f5 (fun j hj => ps_add n _ 1 F G j)) z.2
  subst eb1
  refine gStk (st' := [.int (nI 1)]) (pc' := 65) rfl rfl ?_
  exact gRetZ hC hQ hr (rfl) (Nat.le_of_ble_eq_true rfl) (Nat.le_of_ble_eq_true rfl) dX1_holdsSums_65 (⟨rfl, τ5, rfl, ((((((cKeep.rf σ _).tr (cKeep.of k1 (fun q hq => by omega) : cKeep _ _ (fun q => q < 4))).tr (cKeep.of k2 (fun q hq => by omega) : cKeep _ _ (fun q => q < 4))).tr (cKeep.of k3 (fun q hq => by omega) : cKeep _ _ (fun q => q < 4))).tr (cKeep.of k4 (fun q hq => by omega) : cKeep _ _ (fun q => q < 4))).tr (cKeep.of k5 (fun q hq => by omega) : cKeep _ _ (fun q => q < 4)))⟩)

abbrev rmX1_holdsScaled : Room := { frames := 4, cells := 0, slots := 0, locals := 93 }
set_option maxRecDepth 100000 in
set_option maxHeartbeats 4000000 in
theorem c_X1_holdsScaled (l : Launch) (D : va_G) (L : cLay) (σ : cSt) (i0 n o : Nat) (F : Nat → Rg) (y : Int32) (u : Rg) (hi0 : i0 < 4) (hF : rowIs σ i0 n F) (hn : okL n) (hodd : σ.1 = nI o) (hoo : okO o) (hy : y = nI u.val) : gM l yX1_holdsScaled wsX1_holdsScaled rmX1_holdsScaled D (cTy L) (WC L σ) [.ref (lx L), .ref (la L i0), .int y] 0 0 (fun r w => r = some (.int (nI 1)) ∧ ∃ σ', w = WC L σ' ∧ cKeep σ σ' (fun q => q < 4)) := by
  refine gM.of (cc := cX1_holdsScaled) (maxL := 3) (ret := (some .boolean)) (own := RX1) (by decide) rfl rfl (Nat.le_of_ble_eq_true rfl) rfl ?_
  intro p e s m args below meth c A Q hC hr hnm hQ
  have hin1 : ∀ w ∈ u_ws RX1 TX1 8, w ∈ wsX1_holdsScaled := by decide +kernel
  have hl16 : Cond.fieldLink RX1 16 "Rootrows" "left" "LRootrows$Row;" ∈ wsX1_holdsScaled := by decide +kernel
  have hl23 : Cond.fieldLink RX1 23 "Rootrows" "mixed" "LRootrows$Row;" ∈ wsX1_holdsScaled := by decide +kernel
  have hl26 : Cond.fieldLink RX1 26 "Rootrows" "wanted" "LRootrows$Row;" ∈ wsX1_holdsScaled := by decide +kernel
  have hl29 : Cond.fieldLink RX1 29 "Rootrows" "found" "LRootrows$Row;" ∈ wsX1_holdsScaled := by decide +kernel
  have hN := hn.N
  have hL := hn.le
  refine gAloadN (pc := 0) hC dX1_holdsScaled_0 rfl 0 rfl ?_
  refine cGetRow (pc := 1) hC 3 (by decide) rfl hin1 hl23 dX1_holdsScaled_1 ?_
  refine gAloadN (pc := 4) hC dX1_holdsScaled_4 rfl 1 rfl ?_
  refine gIloadN (pc := 5) hC dX1_holdsScaled_5 rfl 2 rfl ?_
  refine gV (pc := 6) (rest := []) (ci := 0) (q0 := 2 + 2 * 6) hC (c_X0_becomeScaled l D L σ 6 i0 n F y u (by decide) (by omega) hF hN hy) rfl (wc_row (by decide)) (cwV 2 hC.2.2.2.2.1 gX1_holdsScaled_X0_becomeScaled rfl rfl rfl (by decide +kernel) ⟨Nat.le_of_ble_eq_true rfl, Nat.le_of_ble_eq_true rfl⟩) rfl rfl (Nat.le_of_ble_eq_true rfl) dX1_holdsScaled_6 ⟨Nat.le_of_ble_eq_true rfl, Nat.le_of_ble_eq_true rfl⟩ (fun v w1 hp => ?_)
  obtain ⟨rfl, τ1, rfl, k1, f1⟩ := hp
  refine gStk (st' := []) (pc' := 9) rfl rfl ?_
  refine gAloadN (pc := 9) hC dX1_holdsScaled_9 rfl 0 rfl ?_
  refine gAloadN (pc := 10) hC dX1_holdsScaled_10 rfl 0 rfl ?_
  refine cGetRow (pc := 11) hC 3 (by decide) rfl hin1 hl23 dX1_holdsScaled_11 ?_
  refine gAloadN (pc := 14) hC dX1_holdsScaled_14 rfl 0 rfl ?_
  refine cGetRow (pc := 15) hC 5 (by decide) rfl hin1 hl29 dX1_holdsScaled_15 ?_
  refine gV (pc := 18) (rest := []) (ci := 1) (q0 := 0) hC (c_X1_plainValues l D L τ1 6 8 n o (fun i => F i * u) (by decide) (by decide) (by decide) f1 hN (k1.1.trans hodd)) rfl rfl (cwV 2 hC.2.2.2.2.1 gX1_holdsScaled_X1_plainValues rfl rfl rfl (by decide +kernel) ⟨Nat.le_of_ble_eq_true rfl, Nat.le_of_ble_eq_true rfl⟩) rfl rfl (Nat.le_of_ble_eq_true rfl) dX1_holdsScaled_18 ⟨Nat.le_of_ble_eq_true rfl, Nat.le_of_ble_eq_true rfl⟩ (fun v w1 hp => ?_)
  obtain ⟨rfl, τ2, rfl, k2, f2⟩ := hp
  refine gStk (st' := []) (pc' := 21) rfl rfl ?_
  refine gAloadN (pc := 21) hC dX1_holdsScaled_21 rfl 0 rfl ?_
  refine gAloadN (pc := 22) hC dX1_holdsScaled_22 rfl 1 rfl ?_
  refine gAloadN (pc := 23) hC dX1_holdsScaled_23 rfl 0 rfl ?_
  refine cGetRow (pc := 24) hC 1 (by decide) rfl hin1 hl16 dX1_holdsScaled_24 ?_
  refine gV (pc := 27) (rest := []) (ci := 1) (q0 := 0) hC (c_X1_plainValues l D L τ2 i0 4 n o F (by decide) (by omega) (by omega) ((hF.kept k1 (by omega)).kept k2 (by omega)) hN (k2.1.trans (k1.1.trans hodd))) rfl rfl (cwV 2 hC.2.2.2.2.1 gX1_holdsScaled_X1_plainValues rfl rfl rfl (by decide +kernel) ⟨Nat.le_of_ble_eq_true rfl, Nat.le_of_ble_eq_true rfl⟩) rfl rfl (Nat.le_of_ble_eq_true rfl) dX1_holdsScaled_27 ⟨Nat.le_of_ble_eq_true rfl, Nat.le_of_ble_eq_true rfl⟩ (fun v w1 hp => ?_)
  obtain ⟨rfl, τ3, rfl, k3, f3⟩ := hp
  refine gStk (st' := []) (pc' := 30) rfl rfl ?_
  refine gAloadN (pc := 30) hC dX1_holdsScaled_30 rfl 0 rfl ?_
  refine cGetRow (pc := 31) hC 4 (by decide) rfl hin1 hl26 dX1_holdsScaled_31 ?_
  refine gAloadN (pc := 34) hC dX1_holdsScaled_34 rfl 0 rfl ?_
  refine cGetRow (pc := 35) hC 1 (by decide) rfl hin1 hl16 dX1_holdsScaled_35 ?_
  refine gIloadN (pc := 38) hC dX1_holdsScaled_38 rfl 2 rfl ?_
  refine gV (pc := 39) (rest := []) (ci := 0) (q0 := 2 + 2 * 7) hC (c_X0_becomeScaled l D L τ3 7 4 n (ps n (un o n) 1 F) y u (by decide) (by decide) f3 hN hy) rfl (wc_row (by decide)) (cwV 2 hC.2.2.2.2.1 gX1_holdsScaled_X0_becomeScaled rfl rfl rfl (by decide +kernel) ⟨Nat.le_of_ble_eq_true rfl, Nat.le_of_ble_eq_true rfl⟩) rfl rfl (Nat.le_of_ble_eq_true rfl) dX1_holdsScaled_39 ⟨Nat.le_of_ble_eq_true rfl, Nat.le_of_ble_eq_true rfl⟩ (fun v w1 hp => ?_)
  obtain ⟨rfl, τ4, rfl, k4, f4⟩ := hp
  refine gStk (st' := []) (pc' := 42) rfl rfl ?_
  refine gAloadN (pc := 42) hC dX1_holdsScaled_42 rfl 0 rfl ?_
  refine cGetRow (pc := 43) hC 5 (by decide) rfl hin1 hl29 dX1_holdsScaled_43 ?_
  refine gAloadN (pc := 46) hC dX1_holdsScaled_46 rfl 0 rfl ?_
  refine cGetRow (pc := 47) hC 4 (by decide) rfl hin1 hl26 dX1_holdsScaled_47 ?_
  refine gV (pc := 50) (rest := []) (ci := 0) (q0 := 2 + 2 * 8) hC (c_X0_isLike l D L τ4 8 7 n (by decide) (by decide) ((f2.kept k3 (by decide)).kept k4 (by decide)).1 hL) rfl (wc_row (by decide)) (cwV 1 hC.2.2.2.2.1 gX1_holdsScaled_X0_isLike rfl rfl rfl (by decide +kernel) ⟨Nat.le_of_ble_eq_true rfl, Nat.le_of_ble_eq_true rfl⟩) rfl rfl (Nat.le_of_ble_eq_true rfl) dX1_holdsScaled_50 ⟨Nat.le_of_ble_eq_true rfl, Nat.le_of_ble_eq_true rfl⟩ (fun v w1 hp => ?_)
  obtain ⟨rfl, b1, rfl, hb1⟩ := hp
  refine gStk (st' := [.int b1]) (pc' := 53) rfl rfl ?_
  have eb1 : b1 = nI 1 := by
    rcases hb1 with z | z
    · exact z.1
    · exact absurd (like_of ((f2.kept k3 (by decide)).kept k4 (by decide)) f4 (fun j hj => ps_mulr n _ 1 F u j)) z.2
  subst eb1
  refine gStk (st' := [.int (nI 1)]) (pc' := 53) rfl rfl ?_
  exact gRetZ hC hQ hr (rfl) (Nat.le_of_ble_eq_true rfl) (Nat.le_of_ble_eq_true rfl) dX1_holdsScaled_53 (⟨rfl, τ4, rfl, (((((cKeep.rf σ _).tr (cKeep.of k1 (fun q hq => by omega) : cKeep _ _ (fun q => q < 4))).tr (cKeep.of k2 (fun q hq => by omega) : cKeep _ _ (fun q => q < 4))).tr (cKeep.of k3 (fun q hq => by omega) : cKeep _ _ (fun q => q < 4))).tr (cKeep.of k4 (fun q hq => by omega) : cKeep _ _ (fun q => q < 4)))⟩)

abbrev rmX1_holdsOwn : Room := { frames := 5, cells := 0, slots := 0, locals := 115 }
set_option maxRecDepth 100000 in
set_option maxHeartbeats 4000000 in
theorem c_X1_holdsOwn (l : Launch) (D : va_G) (L : cLay) (σ : cSt) (i0 n o : Nat) (F : Nat → Rg) (hi0 : i0 < 4) (hF : rowIs σ i0 n F) (hn : okL n) (hodd : σ.1 = nI o) (hoo : okO o) : gM l yX1_holdsOwn wsX1_holdsOwn rmX1_holdsOwn D (cTy L) (WC L σ) [.ref (lx L), .ref (la L i0)] 0 0 (fun r w => r = some (.int (nI 1)) ∧ ∃ σ', w = WC L σ' ∧ cKeep σ σ' (fun q => q < 4)) := by
  refine gM.of (cc := cX1_holdsOwn) (maxL := 2) (ret := (some .boolean)) (own := RX1) (by decide) rfl rfl (Nat.le_of_ble_eq_true rfl) rfl ?_
  intro p e s m args below meth c A Q hC hr hnm hQ
  have hin0 : ∀ w ∈ u_ws RX0 TX0 2, w ∈ wsX1_holdsOwn := by decide +kernel
  have hin1 : ∀ w ∈ u_ws RX1 TX1 8, w ∈ wsX1_holdsOwn := by decide +kernel
  have hl16 : Cond.fieldLink RX1 16 "Rootrows" "left" "LRootrows$Row;" ∈ wsX1_holdsOwn := by decide +kernel
  have hl26 : Cond.fieldLink RX1 26 "Rootrows" "wanted" "LRootrows$Row;" ∈ wsX1_holdsOwn := by decide +kernel
  have hl29 : Cond.fieldLink RX1 29 "Rootrows" "found" "LRootrows$Row;" ∈ wsX1_holdsOwn := by decide +kernel
  have hl47 : Cond.fieldLink RX1 47 "Rootrows$Row" "size" "I" ∈ wsX1_holdsOwn := by decide +kernel
  have hN := hn.N
  have hL := hn.le
  refine gAloadN (pc := 0) hC dX1_holdsOwn_0 rfl 0 rfl ?_
  refine gAloadN (pc := 1) hC dX1_holdsOwn_1 rfl 1 rfl ?_
  refine gAloadN (pc := 2) hC dX1_holdsOwn_2 rfl 0 rfl ?_
  refine cGetRow (pc := 3) hC 1 (by decide) rfl hin1 hl16 dX1_holdsOwn_3 ?_
  refine gV (pc := 6) (rest := []) (ci := 1) (q0 := 0) hC (c_X1_ownRow l D L σ i0 4 n o F (by decide) (by omega) (by omega) hF hn hodd (by omega) (by decide)) rfl rfl (cwV 2 hC.2.2.2.2.1 gX1_holdsOwn_X1_ownRow rfl rfl rfl (by decide +kernel) ⟨Nat.le_of_ble_eq_true rfl, Nat.le_of_ble_eq_true rfl⟩) rfl rfl (Nat.le_of_ble_eq_true rfl) dX1_holdsOwn_6 ⟨Nat.le_of_ble_eq_true rfl, Nat.le_of_ble_eq_true rfl⟩ (fun v w1 hp => ?_)
  obtain ⟨rfl, τ1, rfl, k1, f1⟩ := hp
  refine gStk (st' := []) (pc' := 9) rfl rfl ?_
  refine gAloadN (pc := 9) hC dX1_holdsOwn_9 rfl 0 rfl ?_
  refine gAloadN (pc := 10) hC dX1_holdsOwn_10 rfl 0 rfl ?_
  refine cGetRow (pc := 11) hC 1 (by decide) rfl hin1 hl16 dX1_holdsOwn_11 ?_
  refine gAloadN (pc := 14) hC dX1_holdsOwn_14 rfl 0 rfl ?_
  refine cGetRow (pc := 15) hC 5 (by decide) rfl hin1 hl29 dX1_holdsOwn_15 ?_
  refine gV (pc := 18) (rest := []) (ci := 1) (q0 := 0) hC (c_X1_plainValues l D L τ1 4 8 n o (ow n (un o n) F) (by decide) (by decide) (by decide) f1 hN (k1.1.trans hodd)) rfl rfl (cwV 2 hC.2.2.2.2.1 gX1_holdsOwn_X1_plainValues rfl rfl rfl (by decide +kernel) ⟨Nat.le_of_ble_eq_true rfl, Nat.le_of_ble_eq_true rfl⟩) rfl rfl (Nat.le_of_ble_eq_true rfl) dX1_holdsOwn_18 ⟨Nat.le_of_ble_eq_true rfl, Nat.le_of_ble_eq_true rfl⟩ (fun v w1 hp => ?_)
  obtain ⟨rfl, τ2, rfl, k2, f2⟩ := hp
  refine gStk (st' := []) (pc' := 21) rfl rfl ?_
  refine gAloadN (pc := 21) hC dX1_holdsOwn_21 rfl 0 rfl ?_
  refine cGetRow (pc := 22) hC 4 (by decide) rfl hin1 hl26 dX1_holdsOwn_22 ?_
  refine gAloadN (pc := 25) hC dX1_holdsOwn_25 rfl 0 rfl ?_
  refine cGetRow (pc := 26) hC 1 (by decide) rfl hin1 hl16 dX1_holdsOwn_26 ?_
  refine gAloadN (pc := 29) hC dX1_holdsOwn_29 rfl 1 rfl ?_
  refine cGetSize (pc := 30) hC (K := i0) (v := (nI n)) (by omega) hin0 hl47 (((hF.eq (k1.2 i0 (by omega) (by omega))).kept k2 (by omega)).1) dX1_holdsOwn_30 ?_
  refine gS (pc := 33) (rest := [.ref (la L 4), .ref (la L 7)]) hC (c_X1_ownScale l D _ _ n hn) (va_cwS 1 hC.2.2.2.2.1 gX1_holdsOwn_X1_ownScale rfl rfl rfl (by decide +kernel) ⟨Nat.le_of_ble_eq_true rfl, Nat.le_of_ble_eq_true rfl⟩) rfl rfl (Nat.le_of_ble_eq_true rfl) dX1_holdsOwn_33 ⟨Nat.le_of_ble_eq_true rfl, Nat.le_of_ble_eq_true rfl⟩ (fun v w1 hp => ?_)
  obtain ⟨rfl, rfl⟩ := hp
  refine gStk (st' := [.int (nI (osc n)), .ref (la L 4), .ref (la L 7)]) (pc' := 36) rfl rfl ?_
  refine gV (pc := 36) (rest := []) (ci := 0) (q0 := 2 + 2 * 7) hC (c_X0_becomeScaled l D L τ2 7 4 n (ow n (un o n) F) _ (nR (osc n)) (by decide) (by decide) (f1.kept k2 (by decide)) hN (by rw [nR_val (osc_lt n)])) rfl (wc_row (by decide)) (cwV 2 hC.2.2.2.2.1 gX1_holdsOwn_X0_becomeScaled rfl rfl rfl (by decide +kernel) ⟨Nat.le_of_ble_eq_true rfl, Nat.le_of_ble_eq_true rfl⟩) rfl rfl (Nat.le_of_ble_eq_true rfl) dX1_holdsOwn_36 ⟨Nat.le_of_ble_eq_true rfl, Nat.le_of_ble_eq_true rfl⟩ (fun v w1 hp => ?_)
  obtain ⟨rfl, τ3, rfl, k3, f3⟩ := hp
  refine gStk (st' := []) (pc' := 39) rfl rfl ?_
  refine gAloadN (pc := 39) hC dX1_holdsOwn_39 rfl 0 rfl ?_
  refine cGetRow (pc := 40) hC 5 (by decide) rfl hin1 hl29 dX1_holdsOwn_40 ?_
  refine gAloadN (pc := 43) hC dX1_holdsOwn_43 rfl 0 rfl ?_
  refine cGetRow (pc := 44) hC 4 (by decide) rfl hin1 hl26 dX1_holdsOwn_44 ?_
  refine gV (pc := 47) (rest := []) (ci := 0) (q0 := 2 + 2 * 8) hC (c_X0_isLike l D L τ3 8 7 n (by decide) (by decide) (f2.kept k3 (by decide)).1 hL) rfl (wc_row (by decide)) (cwV 1 hC.2.2.2.2.1 gX1_holdsOwn_X0_isLike rfl rfl rfl (by decide +kernel) ⟨Nat.le_of_ble_eq_true rfl, Nat.le_of_ble_eq_true rfl⟩) rfl rfl (Nat.le_of_ble_eq_true rfl) dX1_holdsOwn_47 ⟨Nat.le_of_ble_eq_true rfl, Nat.le_of_ble_eq_true rfl⟩ (fun v w1 hp => ?_)
  obtain ⟨rfl, b1, rfl, hb1⟩ := hp
  refine gStk (st' := [.int b1]) (pc' := 50) rfl rfl ?_
  have eb1 : b1 = nI 1 := by
    rcases hb1 with z | z
    · exact z.1
    · exact absurd (like_of (f2.kept k3 (by decide)) f3 (fun j hj => ow_own hoo hn F hj)) z.2
  subst eb1
  refine gStk (st' := [.int (nI 1)]) (pc' := 50) rfl rfl ?_
  exact gRetZ hC hQ hr (rfl) (Nat.le_of_ble_eq_true rfl) (Nat.le_of_ble_eq_true rfl) dX1_holdsOwn_50 (⟨rfl, τ3, rfl, ((((cKeep.rf σ _).tr (⟨k1.1, fun q hq => k1.2 q (by omega) (by omega)⟩ : cKeep _ _ (fun q => q < 4))).tr (cKeep.of k2 (fun q hq => by omega) : cKeep _ _ (fun q => q < 4))).tr (cKeep.of k3 (fun q hq => by omega) : cKeep _ _ (fun q => q < 4)))⟩)

theorem cz_none {F : Nat → Rg} : ∀ {n : Nat}, cz F n = 0 → ∀ j, j < n → F j ≠ 0
  | 0, _, j, hj => absurd hj (Nat.not_lt_zero j)
  | n + 1, h, j, hj => by
    rw [cz_s] at h
    by_cases q : F n = 0
    · rw [if_pos q] at h; omega
    · rw [if_neg q] at h
      by_cases e : j = n
      · subst e; exact q
      · exact cz_none (n := n) (by omega) j (by omega)

abbrev rmX1_holdsInverse : Room := { frames := 5, cells := 0, slots := 0, locals := 116 }
set_option maxRecDepth 100000 in
set_option maxHeartbeats 4000000 in
theorem c_X1_holdsInverse (l : Launch) (D : va_G) (L : cLay) (σ : cSt) (i0 n o : Nat) (F : Nat → Rg) (hi0 : i0 < 4) (hF : rowIs σ i0 n F) (hn : okL n) (hodd : σ.1 = nI o) (hoo : okO o) : gM l yX1_holdsInverse wsX1_holdsInverse rmX1_holdsInverse D (cTy L) (WC L σ) [.ref (lx L), .ref (la L i0)] 0 0 (fun r w => r = some (.int (nI 1)) ∧ ∃ σ', w = WC L σ' ∧ cKeep σ σ' (fun q => q < 4)) := by
  refine gM.of (cc := cX1_holdsInverse) (maxL := 2) (ret := (some .boolean)) (own := RX1) (by decide) rfl rfl (Nat.le_of_ble_eq_true rfl) rfl ?_
  intro p e s m args below meth c A Q hC hr hnm hQ
  have hin0 : ∀ w ∈ u_ws RX0 TX0 2, w ∈ wsX1_holdsInverse := by decide +kernel
  have hin1 : ∀ w ∈ u_ws RX1 TX1 8, w ∈ wsX1_holdsInverse := by decide +kernel
  have hl16 : Cond.fieldLink RX1 16 "Rootrows" "left" "LRootrows$Row;" ∈ wsX1_holdsInverse := by decide +kernel
  have hl20 : Cond.fieldLink RX1 20 "Rootrows" "right" "LRootrows$Row;" ∈ wsX1_holdsInverse := by decide +kernel
  have hl26 : Cond.fieldLink RX1 26 "Rootrows" "wanted" "LRootrows$Row;" ∈ wsX1_holdsInverse := by decide +kernel
  have hl29 : Cond.fieldLink RX1 29 "Rootrows" "found" "LRootrows$Row;" ∈ wsX1_holdsInverse := by decide +kernel
  have hl47 : Cond.fieldLink RX1 47 "Rootrows$Row" "size" "I" ∈ wsX1_holdsInverse := by decide +kernel
  have hl60 : Cond.fieldLink RX1 60 "Rootrows$Row" "numbers" "[I" ∈ wsX1_holdsInverse := by decide +kernel
  have hN := hn.N
  have hL := hn.le
  refine gAloadN (pc := 0) hC dX1_holdsInverse_0 rfl 0 rfl ?_
  refine gAloadN (pc := 1) hC dX1_holdsInverse_1 rfl 1 rfl ?_
  refine gAloadN (pc := 2) hC dX1_holdsInverse_2 rfl 0 rfl ?_
  refine cGetRow (pc := 3) hC 1 (by decide) rfl hin1 hl16 dX1_holdsInverse_3 ?_
  refine gV (pc := 6) (rest := []) (ci := 1) (q0 := 0) hC (c_X1_plainValues l D L σ i0 4 n o F (by decide) (by omega) (by omega) hF hN hodd) rfl rfl (cwV 2 hC.2.2.2.2.1 gX1_holdsInverse_X1_plainValues rfl rfl rfl (by decide +kernel) ⟨Nat.le_of_ble_eq_true rfl, Nat.le_of_ble_eq_true rfl⟩) rfl rfl (Nat.le_of_ble_eq_true rfl) dX1_holdsInverse_6 ⟨Nat.le_of_ble_eq_true rfl, Nat.le_of_ble_eq_true rfl⟩ (fun v w1 hp => ?_)
  obtain ⟨rfl, τ1, rfl, k1, f1⟩ := hp
  refine gStk (st' := []) (pc' := 9) rfl rfl ?_
  refine gAloadN (pc := 9) hC dX1_holdsInverse_9 rfl 0 rfl ?_
  refine cGetRow (pc := 10) hC 1 (by decide) rfl hin1 hl16 dX1_holdsInverse_10 ?_
  refine gV (pc := 13) (rest := []) (ci := 0) (q0 := 2 + 2 * 4) hC (c_X0_countZeros l D L τ1 4 n (ps n (un o n) 1 F) (by decide) f1 hL) rfl (wc_row (by decide)) (cwV 0 hC.2.2.2.2.1 gX1_holdsInverse_X0_countZeros rfl rfl rfl (by decide +kernel) ⟨Nat.le_of_ble_eq_true rfl, Nat.le_of_ble_eq_true rfl⟩) rfl rfl (Nat.le_of_ble_eq_true rfl) dX1_holdsInverse_13 ⟨Nat.le_of_ble_eq_true rfl, Nat.le_of_ble_eq_true rfl⟩ (fun v w1 hp => ?_)
  obtain ⟨rfl, rfl⟩ := hp
  refine gStk (st' := [.int (nI (cz (ps n (un o n) 1 F) n))]) (pc' := 16) rfl rfl ?_
  refine gIf_le (pc := 16) hC (tgt := 21) dX1_holdsInverse_16 (by decide) (fun hc1 => ?_) (fun hc1 => ?_)
  · skip
    have hz : ∀ j, j < n → (ps n (un o n) 1 F) j ≠ 0 := cz_none (by
      rcases Nat.eq_zero_or_pos (cz (ps n (un o n) 1 F) n) with q | q
      · exact q
      · exact absurd hc1 (nI_nle q (by have := cz_le (ps n (un o n) 1 F) n; omega)))
    refine gAloadN (pc := 21) hC dX1_holdsInverse_21 rfl 0 rfl ?_
    refine gAloadN (pc := 22) hC dX1_holdsInverse_22 rfl 0 rfl ?_
    refine cGetRow (pc := 23) hC 1 (by decide) rfl hin1 hl16 dX1_holdsInverse_23 ?_
    refine gAloadN (pc := 26) hC dX1_holdsInverse_26 rfl 0 rfl ?_
    refine cGetRow (pc := 27) hC 2 (by decide) rfl hin1 hl20 dX1_holdsInverse_27 ?_
    refine gV (pc := 30) (rest := []) (ci := 1) (q0 := 0) hC (c_X1_inverseByValues l D L τ1 4 5 n o (ps n (un o n) 1 F) (by decide) (by decide) (by decide) f1 hN (k1.1.trans hodd) (by decide) (by decide)) rfl rfl (cwV 2 hC.2.2.2.2.1 gX1_holdsInverse_X1_inverseByValues rfl rfl rfl (by decide +kernel) ⟨Nat.le_of_ble_eq_true rfl, Nat.le_of_ble_eq_true rfl⟩) rfl rfl (Nat.le_of_ble_eq_true rfl) dX1_holdsInverse_30 ⟨Nat.le_of_ble_eq_true rfl, Nat.le_of_ble_eq_true rfl⟩ (fun v w1 hp => ?_)
    obtain ⟨rfl, τ2, rfl, k2, f2⟩ := hp
    refine gStk (st' := []) (pc' := 33) rfl rfl ?_
    refine gAloadN (pc := 33) hC dX1_holdsInverse_33 rfl 0 rfl ?_
    refine cGetRow (pc := 34) hC 5 (by decide) rfl hin1 hl29 dX1_holdsInverse_34 ?_
    refine gAloadN (pc := 37) hC dX1_holdsInverse_37 rfl 1 rfl ?_
    refine gAloadN (pc := 38) hC dX1_holdsInverse_38 rfl 0 rfl ?_
    refine cGetRow (pc := 39) hC 2 (by decide) rfl hin1 hl20 dX1_holdsInverse_39 ?_
    refine gV (pc := 42) (rest := []) (ci := 0) (q0 := 2 + 2 * 8) hC (c_X0_becomeRingProduct l D L τ2 8 i0 5 n F (bk n (un o n) (fun i => iv ((ps n (un o n) 1 F) i))) (by decide) (by omega) (by decide) (by omega) (by decide) ((hF.kept k1 (by omega)).eq (k2.2 i0 (by omega) (by omega))) f2 hN) rfl (wc_row (by decide)) (cwV 2 hC.2.2.2.2.1 gX1_holdsInverse_X0_becomeRingProduct rfl rfl rfl (by decide +kernel) ⟨Nat.le_of_ble_eq_true rfl, Nat.le_of_ble_eq_true rfl⟩) rfl rfl (Nat.le_of_ble_eq_true rfl) dX1_holdsInverse_42 ⟨Nat.le_of_ble_eq_true rfl, Nat.le_of_ble_eq_true rfl⟩ (fun v w1 hp => ?_)
    obtain ⟨rfl, τ3, rfl, k3, f3⟩ := hp
    refine gStk (st' := []) (pc' := 45) rfl rfl ?_
    refine gAloadN (pc := 45) hC dX1_holdsInverse_45 rfl 0 rfl ?_
    refine cGetRow (pc := 46) hC 4 (by decide) rfl hin1 hl26 dX1_holdsInverse_46 ?_
    refine gAloadN (pc := 49) hC dX1_holdsInverse_49 rfl 1 rfl ?_
    refine cGetSize (pc := 50) hC (K := i0) (v := (nI n)) (by omega) hin0 hl47 ((((hF.kept k1 (by omega)).eq (k2.2 i0 (by omega) (by omega))).kept k3 (by omega)).1) dX1_holdsInverse_50 ?_
    refine gV (pc := 53) (rest := []) (ci := 0) (q0 := 2 + 2 * 7) hC (c_X0_clear l D L τ3 7 (by decide) (nI n)) rfl (wc_row (by decide)) (cwV 1 hC.2.2.2.2.1 gX1_holdsInverse_X0_clear rfl rfl rfl (by decide +kernel) ⟨Nat.le_of_ble_eq_true rfl, Nat.le_of_ble_eq_true rfl⟩) rfl rfl (Nat.le_of_ble_eq_true rfl) dX1_holdsInverse_53 ⟨Nat.le_of_ble_eq_true rfl, Nat.le_of_ble_eq_true rfl⟩ (fun v w1 hp => ?_)
    obtain ⟨rfl, τ9, rfl, k9, z1, z2⟩ := hp
    refine gStk (st' := []) (pc' := 56) rfl rfl ?_
    refine gAloadN (pc := 56) hC dX1_holdsInverse_56 rfl 0 rfl ?_
    refine cGetRow (pc := 57) hC 4 (by decide) rfl hin1 hl26 dX1_holdsInverse_57 ?_
    refine cGetNums (pc := 60) hC (K := 7) (by decide) hin0 hl60 dX1_holdsInverse_60 ?_
    refine gIconst (pc := 63) hC (v := (nI 0)) dX1_holdsInverse_63 (by decide +kernel) ?_
    refine gIconst (pc := 64) hC (v := (nI 1)) dX1_holdsInverse_64 (by decide +kernel) ?_
    obtain ⟨σ2, eσ2⟩ : ∃ ζ : cSt, ζ = cNm τ9 7 (upd (τ9.2.2 7) 0 (nI 1)) := ⟨_, rfl⟩
    refine cNumSt (pc := 65) hC (K := 7) (by decide) 0 (rfl) (by decide) eσ2 dX1_holdsInverse_65 ?_
    have k10 : cSame τ9 σ2 7 := by subst eσ2; exact cSame.nm _ _ _
    have f10 : rowIs σ2 7 n (fun k => if k = 0 then 1 else 0) := by
      subst eσ2
      refine ⟨z1, fun j hj => ?_⟩
      rw [cNm_at]
      show _ = nI (if j = 0 then (1 : Rg) else 0).val
      by_cases q : j = 0
      · subst q; rw [upd_at, if_pos rfl]; rfl
      · rw [upd_ne _ _ q, z2 j (by omega), if_neg q]; rfl
    refine gAloadN (pc := 66) hC dX1_holdsInverse_66 rfl 0 rfl ?_
    refine cGetRow (pc := 67) hC 5 (by decide) rfl hin1 hl29 dX1_holdsInverse_67 ?_
    refine gAloadN (pc := 70) hC dX1_holdsInverse_70 rfl 0 rfl ?_
    refine cGetRow (pc := 71) hC 4 (by decide) rfl hin1 hl26 dX1_holdsInverse_71 ?_
    refine gV (pc := 74) (rest := []) (ci := 0) (q0 := 2 + 2 * 8) hC (c_X0_isLike l D L σ2 8 7 n (by decide) (by decide) ((f3.kept k9 (by decide)).kept k10 (by decide)).1 hL) rfl (wc_row (by decide)) (cwV 1 hC.2.2.2.2.1 gX1_holdsInverse_X0_isLike rfl rfl rfl (by decide +kernel) ⟨Nat.le_of_ble_eq_true rfl, Nat.le_of_ble_eq_true rfl⟩) rfl rfl (Nat.le_of_ble_eq_true rfl) dX1_holdsInverse_74 ⟨Nat.le_of_ble_eq_true rfl, Nat.le_of_ble_eq_true rfl⟩ (fun v w1 hp => ?_)
    obtain ⟨rfl, b3, rfl, hb3⟩ := hp
    refine gStk (st' := [.int b3]) (pc' := 77) rfl rfl ?_
    have eb3 : b3 = nI 1 := by
      rcases hb3 with z | z
      · exact z.1
      · exact absurd (like_of ((f3.kept k9 (by decide)).kept k10 (by decide)) f10 (fun j hj => rp_inv hoo hN F hz hj)) z.2
    subst eb3
    refine gStk (st' := [.int (nI 1)]) (pc' := 77) rfl rfl ?_
    exact gRetZ hC hQ hr (rfl) (Nat.le_of_ble_eq_true rfl) (Nat.le_of_ble_eq_true rfl) dX1_holdsInverse_77 (⟨rfl, σ2, rfl, ((((((cKeep.rf σ _).tr (cKeep.of k1 (fun q hq => by omega) : cKeep _ _ (fun q => q < 4))).tr (⟨k2.1, fun q hq => k2.2 q (by omega) (by omega)⟩ : cKeep _ _ (fun q => q < 4))).tr (cKeep.of k3 (fun q hq => by omega) : cKeep _ _ (fun q => q < 4))).tr (cKeep.of k9 (fun q hq => by omega) : cKeep _ _ (fun q => q < 4))).tr (cKeep.of k10 (fun q hq => by omega) : cKeep _ _ (fun q => q < 4)))⟩)
  · skip
    refine gIconst (pc := 19) hC (v := (nI 1)) dX1_holdsInverse_19 (by decide +kernel) ?_
    exact gRetZ hC hQ hr (rfl) (Nat.le_of_ble_eq_true rfl) (Nat.le_of_ble_eq_true rfl) dX1_holdsInverse_20 (⟨rfl, τ1, rfl, ((cKeep.rf σ _).tr (cKeep.of k1 (fun q hq => by omega) : cKeep _ _ (fun q => q < 4)))⟩)

abbrev rmX1_holdsAgain : Room := { frames := 4, cells := 0, slots := 0, locals := 93 }
set_option maxRecDepth 100000 in
set_option maxHeartbeats 4000000 in
theorem c_X1_holdsAgain (l : Launch) (D : va_G) (L : cLay) (σ : cSt) (i0 n o : Nat) (F : Nat → Rg) (hi0 : i0 < 8) (hF : rowIs σ i0 n F) (hn : okL n) (hodd : σ.1 = nI o) (hoo : okO o) : gM l yX1_holdsAgain wsX1_holdsAgain rmX1_holdsAgain D (cTy L) (WC L σ) [.ref (lx L), .ref (la L i0)] 0 0 (fun r w => r = some (.int (nI 1)) ∧ ∃ σ', w = WC L σ' ∧ cKeep σ σ' (fun q => q ≠ 8)) := by
  refine gM.of (cc := cX1_holdsAgain) (maxL := 3) (ret := (some .boolean)) (own := RX1) (by decide) rfl rfl (Nat.le_of_ble_eq_true rfl) rfl ?_
  intro p e s m args below meth c A Q hC hr hnm hQ
  have hin0 : ∀ w ∈ u_ws RX0 TX0 2, w ∈ wsX1_holdsAgain := by decide +kernel
  have hin1 : ∀ w ∈ u_ws RX1 TX1 8, w ∈ wsX1_holdsAgain := by decide +kernel
  have hl29 : Cond.fieldLink RX1 29 "Rootrows" "found" "LRootrows$Row;" ∈ wsX1_holdsAgain := by decide +kernel
  have hl47 : Cond.fieldLink RX1 47 "Rootrows$Row" "size" "I" ∈ wsX1_holdsAgain := by decide +kernel
  obtain ⟨μ, hm, rfl⟩ := hn.pw
  have hN := hn.N
  have hL := hn.le
  refine gAloadN (pc := 0) hC dX1_holdsAgain_0 rfl 0 rfl ?_
  refine gAloadN (pc := 1) hC dX1_holdsAgain_1 rfl 1 rfl ?_
  refine gAloadN (pc := 2) hC dX1_holdsAgain_2 rfl 0 rfl ?_
  refine cGetRow (pc := 3) hC 5 (by decide) rfl hin1 hl29 dX1_holdsAgain_3 ?_
  refine gV (pc := 6) (rest := []) (ci := 1) (q0 := 0) hC (c_X1_plainValues l D L σ i0 8 (2 ^ μ) o F (by decide) (by omega) (by omega) hF hN hodd) rfl rfl (cwV 2 hC.2.2.2.2.1 gX1_holdsAgain_X1_plainValues rfl rfl rfl (by decide +kernel) ⟨Nat.le_of_ble_eq_true rfl, Nat.le_of_ble_eq_true rfl⟩) rfl rfl (Nat.le_of_ble_eq_true rfl) dX1_holdsAgain_6 ⟨Nat.le_of_ble_eq_true rfl, Nat.le_of_ble_eq_true rfl⟩ (fun v w1 hp => ?_)
  obtain ⟨rfl, τ1, rfl, k1, f1⟩ := hp
  refine gStk (st' := []) (pc' := 9) rfl rfl ?_
  have r0 := (hF.kept k1 (by omega))
  have r8 := f1
  refine gIconst (pc := 9) hC (v := (nI 1)) dX1_holdsAgain_9 (by decide +kernel) ?_
  refine gIstoreN (pc := 10) hC (lv' := [(2, .int (nI 1)), (0, .ref (lx L)), (1, .ref (la L i0))]) dX1_holdsAgain_10 rfl (by decide) rfl ?_
  refine gLoc (lv' := [(2, .int (nI (2 ^ 0))), (0, .ref (lx L)), (1, .ref (la L i0))]) [0, 1, 2] rfl ?_
  refine loopUp (S := Unit) (fun i ζ => gG p l e rmX1_holdsAgain s m args below meth c D A 3 0 0 Q (WC L τ1) 11 [(2, .int (nI (2 ^ i))), (0, .ref (lx L)), (1, .ref (la L i0))] []) (fun i ζ => True) (μ + 1) ?_ ?_ 0 (()) (by omega) (trivial)
  · intro ζ hI
    revert hI; generalize ζ = uu; intro hI
    refine gIloadN (pc := 11) hC dX1_holdsAgain_11 rfl 0 rfl ?_
    refine gAloadN (pc := 12) hC dX1_holdsAgain_12 rfl 2 rfl ?_
    refine cGetSize (pc := 13) hC (K := i0) (v := (nI (2 ^ μ))) (by omega) hin0 hl47 (r0.1) dX1_holdsAgain_13 ?_
    refine gIcmp_gt (pc := 16) hC (tgt := 44) dX1_holdsAgain_16 (by decide) (fun hc1 => ?_) (fun hc1 => absurd (nI_lt (Nat.pow_lt_pow_right (by decide) (by omega)) (by rw [Nat.pow_succ]; omega)) hc1)
    refine gIconst (pc := 44) hC (v := (nI 1)) dX1_holdsAgain_44 (by decide +kernel) ?_
    exact gRetZ hC hQ hr (rfl) (Nat.le_of_ble_eq_true rfl) (Nat.le_of_ble_eq_true rfl) dX1_holdsAgain_45 (⟨rfl, τ1, rfl, cKeep.of k1 (fun q hq => hq)⟩)
  · intro i ζ hi hI ih
    revert hI; generalize ζ = uu; intro hI
    have h2 : 2 ^ i ≤ 2 ^ μ := Nat.pow_le_pow_right (by decide) (by omega)
    refine gIloadN (pc := 11) hC dX1_holdsAgain_11 rfl 0 rfl ?_
    refine gAloadN (pc := 12) hC dX1_holdsAgain_12 rfl 2 rfl ?_
    refine cGetSize (pc := 13) hC (K := i0) (v := (nI (2 ^ μ))) (by omega) hin0 hl47 (r0.1) dX1_holdsAgain_13 ?_
    refine gIcmp_gt (pc := 16) hC (tgt := 44) dX1_holdsAgain_16 (by decide) (fun hc2 => absurd hc2 (nI_nlt h2 (by omega))) (fun hc2 => ?_)
    refine gAloadN (pc := 19) hC dX1_holdsAgain_19 rfl 2 rfl ?_
    refine gIloadN (pc := 20) hC dX1_holdsAgain_20 rfl 0 rfl ?_
    refine gV (pc := 21) (rest := []) (ci := 0) (q0 := 2 + 2 * i0) hC (c_X0_comesAgain l D L τ1 i0 (2 ^ μ) (2 ^ i) F (by omega) r0 hN (by omega)) rfl (wc_row (by omega)) (cwV 1 hC.2.2.2.2.1 gX1_holdsAgain_X0_comesAgain rfl rfl rfl (by decide +kernel) ⟨Nat.le_of_ble_eq_true rfl, Nat.le_of_ble_eq_true rfl⟩) rfl rfl (Nat.le_of_ble_eq_true rfl) dX1_holdsAgain_21 ⟨Nat.le_of_ble_eq_true rfl, Nat.le_of_ble_eq_true rfl⟩ (fun v w1 hp => ?_)
    obtain ⟨rfl, b1, rfl, hb1⟩ := hp
    refine gStk (st' := [.int b1]) (pc' := 24) rfl rfl ?_
    refine gAloadN (pc := 24) hC dX1_holdsAgain_24 rfl 1 rfl ?_
    refine cGetRow (pc := 25) hC 5 (by decide) rfl hin1 hl29 dX1_holdsAgain_25 ?_
    refine gIloadN (pc := 28) hC dX1_holdsAgain_28 rfl 0 rfl ?_
    refine gV (pc := 29) (rest := [.int b1]) (ci := 0) (q0 := 2 + 2 * 8) hC (c_X0_isZeroOffMultiples l D L τ1 8 (2 ^ μ) (2 ^ i) (ps (2 ^ μ) (un o (2 ^ μ)) 1 F) (by decide) r8 hN (by omega)) rfl (wc_row (by decide)) (cwV 1 hC.2.2.2.2.1 gX1_holdsAgain_X0_isZeroOffMultiples rfl rfl rfl (by decide +kernel) ⟨Nat.le_of_ble_eq_true rfl, Nat.le_of_ble_eq_true rfl⟩) rfl rfl (Nat.le_of_ble_eq_true rfl) dX1_holdsAgain_29 ⟨Nat.le_of_ble_eq_true rfl, Nat.le_of_ble_eq_true rfl⟩ (fun v w1 hp => ?_)
    obtain ⟨rfl, b2, rfl, hb2⟩ := hp
    refine gStk (st' := [.int b2, .int b1]) (pc' := 32) rfl rfl ?_
    have hp := ps_again hoo hN F (2 ^ i)
    have e12 : b1 = b2 := by
      rcases hb1 with a | a <;> rcases hb2 with c | c
      · exact a.1.trans c.1.symm
      · exact absurd (hp.mp a.2) c.2
      · exact absurd (hp.mpr c.2) a.2
      · exact a.1.trans c.1.symm
    refine gIcmp_eq (pc := 32) hC (tgt := 37) dX1_holdsAgain_32 (by decide) (fun hc3 => ?_) (fun hc3 => absurd (e12) hc3)
    refine gIloadN (pc := 37) hC dX1_holdsAgain_37 rfl 0 rfl ?_
    refine gIconst (pc := 38) hC (v := (nI 2)) dX1_holdsAgain_38 (by decide +kernel) ?_
    refine gImul (pc := 39) hC (v := (nI (2 ^ (i + 1)))) dX1_holdsAgain_39 (pk_mul _ _) ?_
    refine gIstoreN (pc := 40) hC (lv' := [(2, .int (nI (2 ^ (i + 1)))), (0, .ref (lx L)), (1, .ref (la L i0))]) dX1_holdsAgain_40 rfl (by decide) rfl ?_
    refine gGoto (pc := 41) hC (tgt := 11) dX1_holdsAgain_41 (by decide) ?_
    refine gLoc (lv' := [(2, .int (nI (2 ^ (i + 1)))), (0, .ref (lx L)), (1, .ref (la L i0))]) [0, 1, 2] rfl ?_
    exact ih (()) (trivial)
