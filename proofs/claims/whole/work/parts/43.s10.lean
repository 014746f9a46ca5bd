abbrev rmX1_make : Room := { frames := 7, cells := 2, slots := 12, locals := 103 }
set_option maxRecDepth 100000 in
set_option maxHeartbeats 4000000 in
theorem c_X1_make (l : Launch) (D : va_G) (L : cLay) (σ : cSt) (Δ : dSt) (x : Int32) (y : Int32) (hR : cRel σ Δ)  : gX l yX1_make wsX1_make rmX1_make D (cTy L) (WC L σ) [.ref (lx L), .int x, .int y] 2 12 (fun r w => kk2 (okR x) (okLI y) = 0 ∧ r = some (.int (nI (Δ.2.1 (rI x)))) ∧ ∃ σ', w = WC L σ' ∧ cRel σ' (dRow Δ (rI x) (rI y) (fun _ => 0))) (fun E w => ∃ σ', w = WC L σ' ∧ cRel σ' Δ ∧ ((E = XI ∧ kk2 (okR x) (okLI y) = 1) ∨ (E = XA ∧ kk2 (okR x) (okLI y) = 2))) := by
  refine gX.of (cc := cX1_make) (maxL := 5) (ret := (some .int)) (own := RX1) (by decide) rfl rfl (Nat.le_of_ble_eq_true rfl) rfl ?_
  intro p e s m args below meth c A Q hC hr hQ hEx hl9
  have hin0 : ∀ w ∈ u_ws RX0 TX0 2, w ∈ wsX1_make := by decide +kernel
  have hl47 : Cond.fieldLink RX1 47 "Rootrows$Row" "size" "I" ∈ wsX1_make := by decide +kernel
  refine gAloadN (pc := 0) hC dX1_make_0 rfl 0 rfl ?_
  refine gIloadN (pc := 1) hC dX1_make_1 rfl 1 rfl ?_
  refine gVX (pc := 2) (rest := []) (ci := 1) (q0 := 0) hC hEx hl9 (c_X1_rowAt l D L σ x) rfl rfl (cwV 1 hC.2.2.2.2.1 gX1_make_X1_rowAt rfl rfl rfl (by decide +kernel) ⟨Nat.le_of_ble_eq_true rfl, Nat.le_of_ble_eq_true rfl⟩) rfl rfl (Nat.le_of_ble_eq_true rfl) dX1_make_2 ⟨Nat.le_of_ble_eq_true rfl, Nat.le_of_ble_eq_true rfl⟩ hQ (Nat.le_of_ble_eq_true rfl) (Nat.le_of_ble_eq_true rfl) (fun E w1 h => ⟨_, h.2.1, hR, Or.inl (⟨h.1, kk2_1 h.2.2⟩)⟩) (fun v w1 hp => ?_)
  obtain ⟨ok, rfl, rfl⟩ := hp
  refine gStk (st' := [.ref (la L (rI x))]) (pc' := 5) rfl rfl ?_
  obtain ⟨hi, ei⟩ := ok.get
  obtain ⟨hl_, hF⟩ := hR.2.2 (rI x) hi
  have hN := hl_.N
  have hL := hN.le
  refine gAstoreN (pc := 5) hC (lv' := [(3, .ref (la L (rI x))), (0, .ref (lx L)), (1, .int x), (2, .int y)]) dX1_make_5 rfl (by decide) rfl ?_
  refine gIloadN (pc := 6) hC dX1_make_6 rfl 3 rfl ?_
  refine gSX (pc := 7) (rest := []) hC hEx hl9 (c_X1_needLength l D (cTy L) _ y) (va_cwS 1 hC.2.2.2.2.1 gX1_make_X1_needLength rfl rfl rfl (by decide +kernel) ⟨Nat.le_of_ble_eq_true rfl, Nat.le_of_ble_eq_true rfl⟩) rfl rfl (Nat.le_of_ble_eq_true rfl) dX1_make_7 ⟨Nat.le_of_ble_eq_true rfl, Nat.le_of_ble_eq_true rfl⟩ hQ (Nat.le_of_ble_eq_true rfl) (Nat.le_of_ble_eq_true rfl) (fun E w1 h => ⟨_, h.2.1, hR, Or.inr (⟨h.1, kk2_2 ok h.2.2⟩)⟩) (fun v w1 hp => ?_)
  obtain ⟨okl, rfl, rfl⟩ := hp
  refine gStk (st' := []) (pc' := 10) rfl rfl ?_
  obtain ⟨hy, ey⟩ := okl.get
  refine gAloadN (pc := 10) hC dX1_make_10 rfl 0 rfl ?_
  refine cGetSize (pc := 11) hC (K := (rI x)) (v := (nI (Δ.2.1 (rI x)))) (by omega) hin0 hl47 (hF.1) dX1_make_11 ?_
  refine gIstore (pc := 14) hC (lv' := [(4, .int (nI (Δ.2.1 (rI x)))), (3, .ref (la L (rI x))), (0, .ref (lx L)), (1, .int x), (2, .int y)]) dX1_make_14 (by decide) rfl ?_
  refine gAloadN (pc := 16) hC dX1_make_16 rfl 1 rfl ?_
  refine gIloadN (pc := 17) hC dX1_make_17 rfl 4 rfl ?_
  refine gV (pc := 18) (rest := []) (ci := 0) (q0 := 2 + 2 * (rI x)) hC (c_X0_clear l D L σ (rI x) (by omega) y) rfl (wc_row (by omega)) (cwV 1 hC.2.2.2.2.1 gX1_make_X0_clear rfl rfl rfl (by decide +kernel) ⟨Nat.le_of_ble_eq_true rfl, Nat.le_of_ble_eq_true rfl⟩) rfl rfl (Nat.le_of_ble_eq_true rfl) dX1_make_18 ⟨Nat.le_of_ble_eq_true rfl, Nat.le_of_ble_eq_true rfl⟩ (fun v w1 hp => ?_)
  obtain ⟨rfl, σ', rfl, h1, h2, h3⟩ := hp
  refine gStk (st' := []) (pc' := 21) rfl rfl ?_
  refine gIload (pc := 21) hC dX1_make_21 0 rfl ?_
  exact gRetIX hC hQ hr (Nat.le_of_ble_eq_true rfl) (Nat.le_of_ble_eq_true rfl) dX1_make_23 (⟨kk2_0 ok okl, rfl, σ', rfl, hR.row h1 hy ⟨h2.trans ey, fun j hj => by rw [h3 j (by have := hy.N.le; omega)]; rfl⟩⟩)

abbrev rmX1_set : Room := { frames := 7, cells := 3, slots := 18, locals := 103 }
set_option maxRecDepth 100000 in
set_option maxHeartbeats 4000000 in
theorem c_X1_set (l : Launch) (D : va_G) (L : cLay) (σ : cSt) (Δ : dSt) (x : Int32) (y : Int32) (z : Int32) (hR : cRel σ Δ)  : gX l yX1_set wsX1_set rmX1_set D (cTy L) (WC L σ) [.ref (lx L), .int x, .int y, .int z] 3 18 (fun r w => kk2 (okR x ∧ okP y (Δ.2.1 (rI x))) (okNum z) = 0 ∧ r = some (.int (nI ((Δ.2.2 (rI x)) (rI y)).val)) ∧ ∃ σ', w = WC L σ' ∧ cRel σ' (dRow Δ (rI x) (Δ.2.1 (rI x)) (fun j => if j = (rI y) then nu z else (Δ.2.2 (rI x)) j))) (fun E w => ∃ σ', w = WC L σ' ∧ cRel σ' Δ ∧ ((E = XI ∧ kk2 (okR x ∧ okP y (Δ.2.1 (rI x))) (okNum z) = 1) ∨ (E = XA ∧ kk2 (okR x ∧ okP y (Δ.2.1 (rI x))) (okNum z) = 2))) := by
  refine gX.of (cc := cX1_set) (maxL := 6) (ret := (some .int)) (own := RX1) (by decide) rfl rfl (Nat.le_of_ble_eq_true rfl) rfl ?_
  intro p e s m args below meth c A Q hC hr hQ hEx hl9
  have hin0 : ∀ w ∈ u_ws RX0 TX0 2, w ∈ wsX1_set := by decide +kernel
  have hl60 : Cond.fieldLink RX1 60 "Rootrows$Row" "numbers" "[I" ∈ wsX1_set := by decide +kernel
  refine gAloadN (pc := 0) hC dX1_set_0 rfl 0 rfl ?_
  refine gIloadN (pc := 1) hC dX1_set_1 rfl 1 rfl ?_
  refine gVX (pc := 2) (rest := []) (ci := 1) (q0 := 0) hC hEx hl9 (c_X1_rowAt l D L σ x) rfl rfl (cwV 1 hC.2.2.2.2.1 gX1_set_X1_rowAt rfl rfl rfl (by decide +kernel) ⟨Nat.le_of_ble_eq_true rfl, Nat.le_of_ble_eq_true rfl⟩) rfl rfl (Nat.le_of_ble_eq_true rfl) dX1_set_2 ⟨Nat.le_of_ble_eq_true rfl, Nat.le_of_ble_eq_true rfl⟩ hQ (Nat.le_of_ble_eq_true rfl) (Nat.le_of_ble_eq_true rfl) (fun E w1 h => ⟨_, h.2.1, hR, Or.inl (⟨h.1, kk2_1 (fun q => h.2.2 q.1)⟩)⟩) (fun v w1 hp => ?_)
  obtain ⟨ok, rfl, rfl⟩ := hp
  refine gStk (st' := [.ref (la L (rI x))]) (pc' := 5) rfl rfl ?_
  obtain ⟨hi, ei⟩ := ok.get
  obtain ⟨hl_, hF⟩ := hR.2.2 (rI x) hi
  have hN := hl_.N
  have hL := hN.le
  refine gAstore (pc := 5) hC (lv' := [(4, .ref (la L (rI x))), (0, .ref (lx L)), (1, .int x), (2, .int y), (3, .int z)]) dX1_set_5 (by decide) rfl ?_
  refine gAload (pc := 7) hC dX1_set_7 0 rfl ?_
  refine gIloadN (pc := 9) hC dX1_set_9 rfl 3 rfl ?_
  refine gSX (pc := 10) (rest := []) hC hEx hl9 (c_X1_needPlace l D L σ (rI x) (Δ.2.1 (rI x)) (Δ.2.2 (rI x)) y (by omega) hF) (va_cwS 2 hC.2.2.2.2.1 gX1_set_X1_needPlace rfl rfl rfl (by decide +kernel) ⟨Nat.le_of_ble_eq_true rfl, Nat.le_of_ble_eq_true rfl⟩) rfl rfl (Nat.le_of_ble_eq_true rfl) dX1_set_10 ⟨Nat.le_of_ble_eq_true rfl, Nat.le_of_ble_eq_true rfl⟩ hQ (Nat.le_of_ble_eq_true rfl) (Nat.le_of_ble_eq_true rfl) (fun E w1 h => ⟨_, h.2.1, hR, Or.inl (⟨h.1, kk2_1 (fun q => h.2.2 q.2)⟩)⟩) (fun v w1 hp => ?_)
  obtain ⟨okp, rfl, rfl⟩ := hp
  refine gStk (st' := []) (pc' := 13) rfl rfl ?_
  obtain ⟨hp, ep⟩ := okp.get (by omega)
  refine gIloadN (pc := 13) hC dX1_set_13 rfl 4 rfl ?_
  refine gSX (pc := 14) (rest := []) hC hEx hl9 (c_X1_needNumber l D (cTy L) _ z) (va_cwS 1 hC.2.2.2.2.1 gX1_set_X1_needNumber rfl rfl rfl (by decide +kernel) ⟨Nat.le_of_ble_eq_true rfl, Nat.le_of_ble_eq_true rfl⟩) rfl rfl (Nat.le_of_ble_eq_true rfl) dX1_set_14 ⟨Nat.le_of_ble_eq_true rfl, Nat.le_of_ble_eq_true rfl⟩ hQ (Nat.le_of_ble_eq_true rfl) (Nat.le_of_ble_eq_true rfl) (fun E w1 h => ⟨_, h.2.1, hR, Or.inr (⟨h.1, kk2_2 (⟨ok, okp⟩) h.2.2⟩)⟩) (fun v w1 hp => ?_)
  obtain ⟨okn, rfl, rfl⟩ := hp
  refine gStk (st' := []) (pc' := 17) rfl rfl ?_
  have en := nu_val okn
  refine gAload (pc := 17) hC dX1_set_17 0 rfl ?_
  refine cGetNums (pc := 19) hC (K := (rI x)) (by omega) hin0 hl60 dX1_set_19 ?_
  refine gIloadN (pc := 22) hC dX1_set_22 rfl 3 rfl ?_
  refine cNumLd (pc := 23) hC (K := (rI x)) (v := (nI ((Δ.2.2 (rI x)) (rI y)).val)) (by omega) (rI y) (ep) (by omega) (hF.2 _ (by omega)) dX1_set_23 ?_
  refine gIstore (pc := 24) hC (lv' := [(5, .int (nI ((Δ.2.2 (rI x)) (rI y)).val)), (4, .ref (la L (rI x))), (0, .ref (lx L)), (1, .int x), (2, .int y), (3, .int z)]) dX1_set_24 (by decide) rfl ?_
  refine gAload (pc := 26) hC dX1_set_26 1 rfl ?_
  refine cGetNums (pc := 28) hC (K := (rI x)) (by omega) hin0 hl60 dX1_set_28 ?_
  refine gIloadN (pc := 31) hC dX1_set_31 rfl 4 rfl ?_
  refine gIloadN (pc := 32) hC dX1_set_32 rfl 5 rfl ?_
  obtain ⟨σ1, eσ1⟩ : ∃ ζ : cSt, ζ = cNm σ (rI x) (upd (σ.2.2 (rI x)) (rI y) z) := ⟨_, rfl⟩
  refine cNumSt (pc := 33) hC (K := (rI x)) (by omega) (rI y) (ep) (by omega) eσ1 dX1_set_33 ?_
  refine gIload (pc := 34) hC dX1_set_34 0 rfl ?_
  exact gRetIX hC hQ hr (Nat.le_of_ble_eq_true rfl) (Nat.le_of_ble_eq_true rfl) dX1_set_36 (⟨kk2_0 (⟨ok, okp⟩) okn, rfl, σ1, rfl, by subst eσ1; exact hR.row (cSame.nm _ _ _) hl_ ⟨hF.1, fun j hj => by rw [cNm_at]; show _ = nI (if j = rI y then nu z else (Δ.2.2 (rI x)) j).val; by_cases q : j = rI y; (subst q; rw [upd_at, if_pos rfl]; exact en); rw [upd_ne _ _ q, if_neg q]; exact hF.2 j hj⟩⟩)

theorem gLocE {p : Program} {l : Launch} {e : Env} {R : Room} {s : State} {m : MethodId} {args : Array Value} {below : List Frame} {meth : Method} {c : Code} {nL k n pc : Nat} {D : va_G} {A : Nat → Prop} {Q : State → Prop} {ws : va_W} {lv lv' : List (Nat × Value)} {st : List Value} (h : lv = lv') (kk : gG p l e R s m args below meth c D A nL k n Q ws pc lv' st) : gG p l e R s m args below meth c D A nL k n Q ws pc lv st := by subst h; exact kk

abbrev rmX1_fill : Room := { frames := 7, cells := 2, slots := 12, locals := 104 }
set_option maxRecDepth 100000 in
set_option maxHeartbeats 4000000 in
theorem c_X1_fill (l : Launch) (D : va_G) (L : cLay) (σ : cSt) (Δ : dSt) (x : Int32) (y : Int32) (z : Int32) (hR : cRel σ Δ)  : gX l yX1_fill wsX1_fill rmX1_fill D (cTy L) (WC L σ) [.ref (lx L), .int x, .int y, .int z] 2 12 (fun r w => kk2 (okR x ∧ ¬ y < 0 ∧ ¬ nI (Δ.2.1 (rI x)) < y) (okNum z) = 0 ∧ r = some (.int (nI (cd (Δ.2.2 (rI x)) (fun j => if rI y ≤ j then nu z else (Δ.2.2 (rI x)) j) (Δ.2.1 (rI x))))) ∧ ∃ σ', w = WC L σ' ∧ cRel σ' (dRow Δ (rI x) (Δ.2.1 (rI x)) (fun j => if rI y ≤ j then nu z else (Δ.2.2 (rI x)) j))) (fun E w => ∃ σ', w = WC L σ' ∧ cRel σ' Δ ∧ ((E = XI ∧ kk2 (okR x ∧ ¬ y < 0 ∧ ¬ nI (Δ.2.1 (rI x)) < y) (okNum z) = 1) ∨ (E = XA ∧ kk2 (okR x ∧ ¬ y < 0 ∧ ¬ nI (Δ.2.1 (rI x)) < y) (okNum z) = 2))) := by
  refine gX.of (cc := cX1_fill) (maxL := 6) (ret := (some .int)) (own := RX1) (by decide) rfl rfl (Nat.le_of_ble_eq_true rfl) rfl ?_
  intro p e s m args below meth c A Q hC hr hQ hEx hl9
  have hin0 : ∀ w ∈ u_ws RX0 TX0 2, w ∈ wsX1_fill := by decide +kernel
  have hin1 : ∀ w ∈ u_ws RX1 TX1 8, w ∈ wsX1_fill := by decide +kernel
  have hl29 : Cond.fieldLink RX1 29 "Rootrows" "found" "LRootrows$Row;" ∈ wsX1_fill := by decide +kernel
  have hl47 : Cond.fieldLink RX1 47 "Rootrows$Row" "size" "I" ∈ wsX1_fill := by decide +kernel
  have hl60 : Cond.fieldLink RX1 60 "Rootrows$Row" "numbers" "[I" ∈ wsX1_fill := by decide +kernel
  refine gAloadN (pc := 0) hC dX1_fill_0 rfl 0 rfl ?_
  refine gIloadN (pc := 1) hC dX1_fill_1 rfl 1 rfl ?_
  refine gVX (pc := 2) (rest := []) (ci := 1) (q0 := 0) hC hEx hl9 (c_X1_rowAt l D L σ x) rfl rfl (cwV 1 hC.2.2.2.2.1 gX1_fill_X1_rowAt rfl rfl rfl (by decide +kernel) ⟨Nat.le_of_ble_eq_true rfl, Nat.le_of_ble_eq_true rfl⟩) rfl rfl (Nat.le_of_ble_eq_true rfl) dX1_fill_2 ⟨Nat.le_of_ble_eq_true rfl, Nat.le_of_ble_eq_true rfl⟩ hQ (Nat.le_of_ble_eq_true rfl) (Nat.le_of_ble_eq_true rfl) (fun E w1 h => ⟨_, h.2.1, hR, Or.inl (⟨h.1, kk2_1 (fun q => h.2.2 q.1)⟩)⟩) (fun v w1 hp => ?_)
  obtain ⟨ok, rfl, rfl⟩ := hp
  refine gStk (st' := [.ref (la L (rI x))]) (pc' := 5) rfl rfl ?_
  obtain ⟨hi, ei⟩ := ok.get
  obtain ⟨hl_, hF⟩ := hR.2.2 (rI x) hi
  have hN := hl_.N
  have hL := hN.le
  refine gAstore (pc := 5) hC (lv' := [(4, .ref (la L (rI x))), (0, .ref (lx L)), (1, .int x), (2, .int y), (3, .int z)]) dX1_fill_5 (by decide) rfl ?_
  refine gIloadN (pc := 7) hC dX1_fill_7 rfl 3 rfl ?_
  refine gIf_lt (pc := 8) hC (tgt := 20) dX1_fill_8 (by decide) (fun hc1 => ?_) (fun hc1 => ?_)
  · skip
    exact gThrow (pc := 20) (E := "java/lang/IndexOutOfBoundsException") (text := "from is out of range") hC hEx hl9 (by decide +kernel) (by decide +kernel) (by decide +kernel) (by decide +kernel) (by decide +kernel) (by decide +kernel) (by decide +kernel) dX1_fill_20 dX1_fill_23 dX1_fill_24 dX1_fill_26 dX1_fill_29 (Nat.le_of_ble_eq_true rfl) (Nat.le_of_ble_eq_true rfl) (Nat.le_of_ble_eq_true rfl) (Nat.le_of_ble_eq_true rfl) (Nat.le_of_ble_eq_true rfl) (Nat.le_of_ble_eq_true rfl) hQ (⟨σ, rfl, hR, Or.inl (⟨rfl, kk2_1 (fun q => q.2.1 hc1)⟩)⟩)
  · skip
    refine gIloadN (pc := 11) hC dX1_fill_11 rfl 3 rfl ?_
    refine gAload (pc := 12) hC dX1_fill_12 0 rfl ?_
    refine cGetSize (pc := 14) hC (K := (rI x)) (v := (nI (Δ.2.1 (rI x)))) (by omega) hin0 hl47 (hF.1) dX1_fill_14 ?_
    refine gIcmp_le (pc := 17) hC (tgt := 30) dX1_fill_17 (by decide) (fun hc2 => ?_) (fun hc2 => ?_)
    · skip
      have okf : ¬ y < 0 ∧ ¬ nI (Δ.2.1 (rI x)) < y := ⟨hc1, Int32.not_lt.mpr hc2⟩
      obtain ⟨p0, hp, ep⟩ := nI_of2 (M := nI (Δ.2.1 (rI x))) (n := (Δ.2.1 (rI x))) (nI_toInt (by omega)) okf.1 hc2
      have epI : rI y = p0 := by rw [ep]; exact rI_nI (by omega)
      refine gIloadN (pc := 30) hC dX1_fill_30 rfl 4 rfl ?_
      refine gSX (pc := 31) (rest := []) hC hEx hl9 (c_X1_needNumber l D (cTy L) _ z) (va_cwS 1 hC.2.2.2.2.1 gX1_fill_X1_needNumber rfl rfl rfl (by decide +kernel) ⟨Nat.le_of_ble_eq_true rfl, Nat.le_of_ble_eq_true rfl⟩) rfl rfl (Nat.le_of_ble_eq_true rfl) dX1_fill_31 ⟨Nat.le_of_ble_eq_true rfl, Nat.le_of_ble_eq_true rfl⟩ hQ (Nat.le_of_ble_eq_true rfl) (Nat.le_of_ble_eq_true rfl) (fun E w1 h => ⟨_, h.2.1, hR, Or.inr (⟨h.1, kk2_2 (⟨ok, okf⟩) h.2.2⟩)⟩) (fun v w1 hp => ?_)
      obtain ⟨okn, rfl, rfl⟩ := hp
      refine gStk (st' := []) (pc' := 34) rfl rfl ?_
      have en := nu_val okn
      refine gAloadN (pc := 34) hC dX1_fill_34 rfl 1 rfl ?_
      refine cGetRow (pc := 35) hC 5 (by decide) rfl hin1 hl29 dX1_fill_35 ?_
      refine gAload (pc := 38) hC dX1_fill_38 0 rfl ?_
      refine gV (pc := 40) (rest := []) (ci := 0) (q0 := 2 + 2 * 8) hC (c_X0_take l D L σ 8 (rI x) (by decide) (by omega)) rfl (wc_row (by decide)) (cwV 1 hC.2.2.2.2.1 gX1_fill_X0_take rfl rfl rfl (by decide +kernel) ⟨Nat.le_of_ble_eq_true rfl, Nat.le_of_ble_eq_true rfl⟩) rfl rfl (Nat.le_of_ble_eq_true rfl) dX1_fill_40 ⟨Nat.le_of_ble_eq_true rfl, Nat.le_of_ble_eq_true rfl⟩ (fun v w1 hp => ?_)
      obtain ⟨rfl, σ', rfl, h1, h2, h3⟩ := hp
      refine gStk (st' := []) (pc' := 43) rfl rfl ?_
      have hF8 : rowIs σ' 8 (Δ.2.1 (rI x)) (Δ.2.2 (rI x)) := ⟨h2.trans hF.1, fun j hj => (h3 j (by omega)).trans (hF.2 j hj)⟩
      have hF0 := hF.kept h1 (by omega)
      refine gIloadN (pc := 43) hC dX1_fill_43 rfl 3 rfl ?_
      refine gIstore (pc := 44) hC (lv' := [(5, .int y), (4, .ref (la L (rI x))), (0, .ref (lx L)), (1, .int x), (2, .int y), (3, .int z)]) dX1_fill_44 (by decide) rfl ?_
      have hpn := hp
      refine gLocE (lv' := [(5, .int (nI p0)), (4, .ref (la L (rI x))), (0, .ref (lx L)), (1, .int x), (2, .int y), (3, .int z)]) (by rw [ep]) ?_
      refine gLoc (lv' := [(5, .int (nI p0)), (4, .ref (la L (rI x))), (0, .ref (lx L)), (3, .int z)]) [0, 1, 2, 5] rfl ?_
      refine loopUp (S := cSt) (fun i ζ => gG p l e rmX1_fill s m args below meth c D A 6 2 12 Q (WC L ζ) 46 [(5, .int (nI i)), (4, .ref (la L (rI x))), (0, .ref (lx L)), (3, .int z)] []) (fun i ζ => (p0 ≤ i ∧ cSame σ' ζ 8) ∧ ζ.2.1 8 = nI (Δ.2.1 (rI x)) ∧ ∀ j, j < (Δ.2.1 (rI x)) → ζ.2.2 8 j = if p0 ≤ j ∧ j < i then nI (nu z).val else nI ((Δ.2.2 (rI x)) j).val) (Δ.2.1 (rI x)) ?_ ?_ p0 (σ') (by omega) (⟨⟨Nat.le_refl p0, cSame.rf σ' 8⟩, hF8.1, fun j hj => by rw [if_neg (by omega)]; exact hF8.2 j hj⟩)
      · intro ζ hI
        revert hI; generalize ζ = σ1; intro hI
        obtain ⟨⟨hpi, hs1⟩, hI2⟩ := hI
        have hI : cSame σ' σ1 8 ∧ σ1.2.1 8 = nI (Δ.2.1 (rI x)) ∧ ∀ j, j < (Δ.2.1 (rI x)) → σ1.2.2 8 j = if p0 ≤ j ∧ j < (Δ.2.1 (rI x)) then nI (nu z).val else nI ((Δ.2.2 (rI x)) j).val := ⟨hs1, hI2⟩
        refine gIload (pc := 46) hC dX1_fill_46 0 rfl ?_
        refine gAload (pc := 48) hC dX1_fill_48 1 rfl ?_
        refine cGetSize (pc := 50) hC (K := (rI x)) (v := (nI (Δ.2.1 (rI x)))) (by omega) hin0 hl47 ((hF0.kept hI.1 (by omega)).1) dX1_fill_50 ?_
        refine gIcmp_ge (pc := 53) hC (tgt := 73) dX1_fill_53 (by decide) (fun hc3 => ?_) (fun hc3 => absurd (nI_le (Nat.le_refl _) (by omega)) hc3)
        refine gAload (pc := 73) hC dX1_fill_73 1 rfl ?_
        refine gAloadN (pc := 75) hC dX1_fill_75 rfl 2 rfl ?_
        refine cGetRow (pc := 76) hC 5 (by decide) rfl hin1 hl29 dX1_fill_76 ?_
        refine gS (pc := 79) (rest := []) hC (c_X1_changed l D L σ1 (rI x) 8 (Δ.2.1 (rI x)) (Δ.2.2 (rI x)) (fun j => if rI y ≤ j then nu z else (Δ.2.2 (rI x)) j) (by omega) (by decide) (hF0.kept hI.1 (by omega)) ⟨hI.2.1, fun j hj => by rw [hI.2.2 j hj, epI]; by_cases q : p0 ≤ j; (rw [if_pos ⟨q, hj⟩]; show nI (nu z).val = nI (if p0 ≤ j then nu z else (Δ.2.2 (rI x)) j).val; rw [if_pos q]); (rw [if_neg (fun c => q c.1)]; show _ = nI (if p0 ≤ j then nu z else (Δ.2.2 (rI x)) j).val; rw [if_neg q])⟩ (by omega)) (va_cwS 2 hC.2.2.2.2.1 gX1_fill_X1_changed rfl rfl rfl (by decide +kernel) ⟨Nat.le_of_ble_eq_true rfl, Nat.le_of_ble_eq_true rfl⟩) rfl rfl (Nat.le_of_ble_eq_true rfl) dX1_fill_79 ⟨Nat.le_of_ble_eq_true rfl, Nat.le_of_ble_eq_true rfl⟩ (fun v w1 hp => ?_)
        obtain ⟨rfl, σ3, rfl, h4, h5⟩ := hp
        refine gStk (st' := [.int (nI (cd (Δ.2.2 (rI x)) (fun j => if rI y ≤ j then nu z else (Δ.2.2 (rI x)) j) (Δ.2.1 (rI x))))]) (pc' := 82) rfl rfl ?_
        exact gRetIX hC hQ hr (Nat.le_of_ble_eq_true rfl) (Nat.le_of_ble_eq_true rfl) dX1_fill_82 (⟨kk2_0 (⟨ok, okf⟩) okn, rfl, σ3, rfl, (hR.same (h1.tr hI.1) (by decide)).row h4 hl_ h5⟩)
      · intro i ζ hi hI ih
        revert hI; generalize ζ = σ1; intro hI
        obtain ⟨⟨hpi, hs1⟩, hI2⟩ := hI
        have hI : cSame σ' σ1 8 ∧ σ1.2.1 8 = nI (Δ.2.1 (rI x)) ∧ ∀ j, j < (Δ.2.1 (rI x)) → σ1.2.2 8 j = if p0 ≤ j ∧ j < i then nI (nu z).val else nI ((Δ.2.2 (rI x)) j).val := ⟨hs1, hI2⟩
        refine gIload (pc := 46) hC dX1_fill_46 0 rfl ?_
        refine gAload (pc := 48) hC dX1_fill_48 1 rfl ?_
        refine cGetSize (pc := 50) hC (K := (rI x)) (v := (nI (Δ.2.1 (rI x)))) (by omega) hin0 hl47 ((hF0.kept hI.1 (by omega)).1) dX1_fill_50 ?_
        refine gIcmp_ge (pc := 53) hC (tgt := 73) dX1_fill_53 (by decide) (fun hc4 => absurd hc4 (nI_ge hi (by omega))) (fun hc4 => ?_)
        refine gAloadN (pc := 56) hC dX1_fill_56 rfl 2 rfl ?_
        refine cGetRow (pc := 57) hC 5 (by decide) rfl hin1 hl29 dX1_fill_57 ?_
        refine cGetNums (pc := 60) hC (K := 8) (by decide) hin0 hl60 dX1_fill_60 ?_
        refine gIload (pc := 63) hC dX1_fill_63 0 rfl ?_
        refine gIloadN (pc := 65) hC dX1_fill_65 rfl 3 rfl ?_
        obtain ⟨σ5, eσ5⟩ : ∃ ζ : cSt, ζ = cNm σ1 8 (upd (σ1.2.2 8) i z) := ⟨_, rfl⟩
        refine cNumSt (pc := 66) hC (K := 8) (by decide) i (rfl) (by omega) eσ5 dX1_fill_66 ?_
        refine gIinc (pc := 67) hC (v := (nI (i + 1))) (lv' := [(5, .int (nI (i + 1))), (4, .ref (la L (rI x))), (0, .ref (lx L)), (3, .int z)]) dX1_fill_67 (q := 0) rfl (nI_1 _) (by decide) rfl ?_
        refine gGoto (pc := 70) hC (tgt := 46) dX1_fill_70 (by decide) ?_
        refine gLoc (lv' := [(5, .int (nI (i + 1))), (4, .ref (la L (rI x))), (0, .ref (lx L)), (3, .int z)]) [0, 1, 2, 3] rfl ?_
        exact ih (σ5) ((fun (h9 : cSame σ' σ5 8 ∧ σ5.2.1 8 = nI (Δ.2.1 (rI x)) ∧ ∀ j, j < (Δ.2.1 (rI x)) → σ5.2.2 8 j = if p0 ≤ j ∧ j < i + 1 then nI (nu z).val else nI ((Δ.2.2 (rI x)) j).val) => (⟨⟨by omega, h9.1⟩, h9.2⟩ : (p0 ≤ i + 1 ∧ cSame σ' σ5 8) ∧ σ5.2.1 8 = nI (Δ.2.1 (rI x)) ∧ ∀ j, j < (Δ.2.1 (rI x)) → σ5.2.2 8 j = if p0 ≤ j ∧ j < i + 1 then nI (nu z).val else nI ((Δ.2.2 (rI x)) j).val)) (by subst eσ5; refine ⟨hI.1.tr (cSame.nm _ _ _), hI.2.1, fun j hj => ?_⟩; rw [cNm_at]; by_cases q : j = i; (subst q; rw [upd_at, if_pos ⟨hpi, by omega⟩]; exact en); (rw [upd_ne _ _ q, hI.2.2 j hj]; by_cases c1 : p0 ≤ j ∧ j < i; (rw [if_pos c1, if_pos ⟨c1.1, by omega⟩]); rw [if_neg c1, if_neg (by omega)])))
    · skip
      exact gThrow (pc := 20) (E := "java/lang/IndexOutOfBoundsException") (text := "from is out of range") hC hEx hl9 (by decide +kernel) (by decide +kernel) (by decide +kernel) (by decide +kernel) (by decide +kernel) (by decide +kernel) (by decide +kernel) dX1_fill_20 dX1_fill_23 dX1_fill_24 dX1_fill_26 dX1_fill_29 (Nat.le_of_ble_eq_true rfl) (Nat.le_of_ble_eq_true rfl) (Nat.le_of_ble_eq_true rfl) (Nat.le_of_ble_eq_true rfl) (Nat.le_of_ble_eq_true rfl) (Nat.le_of_ble_eq_true rfl) hQ (⟨σ, rfl, hR, Or.inl (⟨rfl, kk2_1 (fun q => q.2.2 (Int32.not_le.mp hc2))⟩)⟩)

abbrev rmX1_copy : Room := { frames := 7, cells := 2, slots := 12, locals := 103 }
set_option maxRecDepth 100000 in
set_option maxHeartbeats 4000000 in
theorem c_X1_copy (l : Launch) (D : va_G) (L : cLay) (σ : cSt) (Δ : dSt) (x : Int32) (y : Int32) (hR : cRel σ Δ)  : gX l yX1_copy wsX1_copy rmX1_copy D (cTy L) (WC L σ) [.ref (lx L), .int x, .int y] 2 12 (fun r w => kk1 (okR x ∧ okR y) = 0 ∧ (∃ v : Int32, r = some (.int v) ∧ ((v = nI 0 ∧ dLike Δ (rI y) (rI x)) ∨ (v = nI 1 ∧ ¬ dLike Δ (rI y) (rI x)))) ∧ ∃ σ', w = WC L σ' ∧ cRel σ' (dRow Δ (rI y) (Δ.2.1 (rI x)) (Δ.2.2 (rI x)))) (fun E w => ∃ σ', w = WC L σ' ∧ cRel σ' Δ ∧ ((E = XI ∧ kk1 (okR x ∧ okR y) = 1))) := by
  refine gX.of (cc := cX1_copy) (maxL := 6) (ret := (some .boolean)) (own := RX1) (by decide) rfl rfl (Nat.le_of_ble_eq_true rfl) rfl ?_
  intro p e s m args below meth c A Q hC hr hQ hEx hl9
  refine gAloadN (pc := 0) hC dX1_copy_0 rfl 0 rfl ?_
  refine gIloadN (pc := 1) hC dX1_copy_1 rfl 1 rfl ?_
  refine gVX (pc := 2) (rest := []) (ci := 1) (q0 := 0) hC hEx hl9 (c_X1_rowAt l D L σ x) rfl rfl (cwV 1 hC.2.2.2.2.1 gX1_copy_X1_rowAt rfl rfl rfl (by decide +kernel) ⟨Nat.le_of_ble_eq_true rfl, Nat.le_of_ble_eq_true rfl⟩) rfl rfl (Nat.le_of_ble_eq_true rfl) dX1_copy_2 ⟨Nat.le_of_ble_eq_true rfl, Nat.le_of_ble_eq_true rfl⟩ hQ (Nat.le_of_ble_eq_true rfl) (Nat.le_of_ble_eq_true rfl) (fun E w1 h => ⟨_, h.2.1, hR, ⟨h.1, kk1_1 (fun q => h.2.2 q.1)⟩⟩) (fun v w1 hp => ?_)
  obtain ⟨ok, rfl, rfl⟩ := hp
  refine gStk (st' := [.ref (la L (rI x))]) (pc' := 5) rfl rfl ?_
  obtain ⟨hi, ei⟩ := ok.get
  obtain ⟨hl_, hF⟩ := hR.2.2 (rI x) hi
  have hN := hl_.N
  have hL := hN.le
  refine gAstoreN (pc := 5) hC (lv' := [(3, .ref (la L (rI x))), (0, .ref (lx L)), (1, .int x), (2, .int y)]) dX1_copy_5 rfl (by decide) rfl ?_
  refine gAloadN (pc := 6) hC dX1_copy_6 rfl 1 rfl ?_
  refine gIloadN (pc := 7) hC dX1_copy_7 rfl 3 rfl ?_
  refine gVX (pc := 8) (rest := []) (ci := 1) (q0 := 0) hC hEx hl9 (c_X1_rowAt l D L σ y) rfl rfl (cwV 1 hC.2.2.2.2.1 gX1_copy_X1_rowAt rfl rfl rfl (by decide +kernel) ⟨Nat.le_of_ble_eq_true rfl, Nat.le_of_ble_eq_true rfl⟩) rfl rfl (Nat.le_of_ble_eq_true rfl) dX1_copy_8 ⟨Nat.le_of_ble_eq_true rfl, Nat.le_of_ble_eq_true rfl⟩ hQ (Nat.le_of_ble_eq_true rfl) (Nat.le_of_ble_eq_true rfl) (fun E w1 h => ⟨_, h.2.1, hR, ⟨h.1, kk1_1 (fun q => h.2.2 q.2)⟩⟩) (fun v w1 hp => ?_)
  obtain ⟨ok2, rfl, rfl⟩ := hp
  refine gStk (st' := [.ref (la L (rI y))]) (pc' := 11) rfl rfl ?_
  obtain ⟨hi2, ei2⟩ := ok2.get
  obtain ⟨hl2_, hF2⟩ := hR.2.2 (rI y) hi2
  have hN2 := hl2_.N
  have hL2 := hN2.le
  refine gAstore (pc := 11) hC (lv' := [(4, .ref (la L (rI y))), (3, .ref (la L (rI x))), (0, .ref (lx L)), (1, .int x), (2, .int y)]) dX1_copy_11 (by decide) rfl ?_
  refine gAload (pc := 13) hC dX1_copy_13 0 rfl ?_
  refine gAloadN (pc := 15) hC dX1_copy_15 rfl 1 rfl ?_
  refine gV (pc := 16) (rest := []) (ci := 0) (q0 := 2 + 2 * (rI y)) hC (c_X0_isLike l D L σ (rI y) (rI x) (Δ.2.1 (rI y)) (by omega) (by omega) hF2.1 (by omega)) rfl (wc_row (by omega)) (cwV 1 hC.2.2.2.2.1 gX1_copy_X0_isLike rfl rfl rfl (by decide +kernel) ⟨Nat.le_of_ble_eq_true rfl, Nat.le_of_ble_eq_true rfl⟩) rfl rfl (Nat.le_of_ble_eq_true rfl) dX1_copy_16 ⟨Nat.le_of_ble_eq_true rfl, Nat.le_of_ble_eq_true rfl⟩ (fun v w1 hp => ?_)
  obtain ⟨rfl, b1, rfl, hb1⟩ := hp
  refine gStk (st' := [.int b1]) (pc' := 19) rfl rfl ?_
  have hlk : (σ.2.1 (rI y) = σ.2.1 (rI x) ∧ ∀ j, j < (Δ.2.1 (rI y)) → σ.2.2 (rI y) j = σ.2.2 (rI x) j) ↔ dLike Δ (rI y) (rI x) := by
    rw [hF2.1, hF.1]
    constructor
    · rintro ⟨a, c⟩
      have e1 := (nI_eq (by omega) (by omega)).mp a
      exact ⟨e1, fun t ht => by have := c t ht; rw [hF2.2 t ht, hF.2 t (by omega)] at this; exact val_ne.mp this⟩
    · rintro ⟨a, c⟩
      exact ⟨by rw [a], fun t ht => by rw [hF2.2 t ht, hF.2 t (by omega), c t ht]⟩
  refine gIf_ne (pc := 19) hC (tgt := 26) dX1_copy_19 (by decide) (fun hc1 => ?_) (fun hc1 => ?_)
  · skip
    refine gIconst (pc := 26) hC (v := (nI 0)) dX1_copy_26 (by decide +kernel) ?_
    refine gIstore (pc := 27) hC (lv' := [(5, .int (nI 0)), (4, .ref (la L (rI y))), (3, .ref (la L (rI x))), (0, .ref (lx L)), (1, .int x), (2, .int y)]) dX1_copy_27 (by decide) rfl ?_
    refine gAload (pc := 29) hC dX1_copy_29 1 rfl ?_
    refine gAloadN (pc := 31) hC dX1_copy_31 rfl 2 rfl ?_
    refine gV (pc := 32) (rest := []) (ci := 0) (q0 := 2 + 2 * (rI y)) hC (c_X0_take l D L σ (rI y) (rI x) (by omega) (by omega)) rfl (wc_row (by omega)) (cwV 1 hC.2.2.2.2.1 gX1_copy_X0_take rfl rfl rfl (by decide +kernel) ⟨Nat.le_of_ble_eq_true rfl, Nat.le_of_ble_eq_true rfl⟩) rfl rfl (Nat.le_of_ble_eq_true rfl) dX1_copy_32 ⟨Nat.le_of_ble_eq_true rfl, Nat.le_of_ble_eq_true rfl⟩ (fun v w1 hp => ?_)
    obtain ⟨rfl, σ', rfl, h1, h2, h3⟩ := hp
    refine gStk (st' := []) (pc' := 35) rfl rfl ?_
    refine gIload (pc := 35) hC dX1_copy_35 0 rfl ?_
    exact gRetZX hC hQ hr (rfl) (Nat.le_of_ble_eq_true rfl) (Nat.le_of_ble_eq_true rfl) dX1_copy_37 (⟨kk1_0 ⟨ok, ok2⟩, ⟨nI 0, rfl, Or.inl ⟨rfl, by rcases hb1 with a | a; exact hlk.mp a.2; (rw [a.1] at hc1; exact absurd (by decide) hc1)⟩⟩, σ', rfl, hR.row h1 hl_ ⟨h2.trans hF.1, fun j hj => (h3 j (by omega)).trans (hF.2 j hj)⟩⟩)
  · skip
    refine gIconst (pc := 22) hC (v := (nI 1)) dX1_copy_22 (by decide +kernel) ?_
    refine gGoto (pc := 23) hC (tgt := 27) dX1_copy_23 (by decide) ?_
    refine gIstore (pc := 27) hC (lv' := [(5, .int (nI 1)), (4, .ref (la L (rI y))), (3, .ref (la L (rI x))), (0, .ref (lx L)), (1, .int x), (2, .int y)]) dX1_copy_27 (by decide) rfl ?_
    refine gAload (pc := 29) hC dX1_copy_29 1 rfl ?_
    refine gAloadN (pc := 31) hC dX1_copy_31 rfl 2 rfl ?_
    refine gV (pc := 32) (rest := []) (ci := 0) (q0 := 2 + 2 * (rI y)) hC (c_X0_take l D L σ (rI y) (rI x) (by omega) (by omega)) rfl (wc_row (by omega)) (cwV 1 hC.2.2.2.2.1 gX1_copy_X0_take rfl rfl rfl (by decide +kernel) ⟨Nat.le_of_ble_eq_true rfl, Nat.le_of_ble_eq_true rfl⟩) rfl rfl (Nat.le_of_ble_eq_true rfl) dX1_copy_32 ⟨Nat.le_of_ble_eq_true rfl, Nat.le_of_ble_eq_true rfl⟩ (fun v w1 hp => ?_)
    obtain ⟨rfl, σ', rfl, h1, h2, h3⟩ := hp
    refine gStk (st' := []) (pc' := 35) rfl rfl ?_
    refine gIload (pc := 35) hC dX1_copy_35 0 rfl ?_
    exact gRetZX hC hQ hr (rfl) (Nat.le_of_ble_eq_true rfl) (Nat.le_of_ble_eq_true rfl) dX1_copy_37 (⟨kk1_0 ⟨ok, ok2⟩, ⟨nI 1, rfl, Or.inr ⟨rfl, by rcases hb1 with a | a; (rw [a.1] at hc1; exact absurd hc1 (by decide)); exact fun q => a.2 (hlk.mpr q)⟩⟩, σ', rfl, hR.row h1 hl_ ⟨h2.trans hF.1, fun j hj => (h3 j (by omega)).trans (hF.2 j hj)⟩⟩)

abbrev rmX1_length : Room := { frames := 7, cells := 1, slots := 6, locals := 103 }
set_option maxRecDepth 100000 in
set_option maxHeartbeats 4000000 in
theorem c_X1_length (l : Launch) (D : va_G) (L : cLay) (σ : cSt) (Δ : dSt) (x : Int32) (hR : cRel σ Δ)  : gX l yX1_length wsX1_length rmX1_length D (cTy L) (WC L σ) [.ref (lx L), .int x] 1 6 (fun r w => kk1 (okR x) = 0 ∧ r = some (.int (nI (Δ.2.1 (rI x)))) ∧ ∃ σ', w = WC L σ' ∧ cRel σ' Δ) (fun E w => ∃ σ', w = WC L σ' ∧ cRel σ' Δ ∧ ((E = XI ∧ kk1 (okR x) = 1))) := by
  refine gX.of (cc := cX1_length) (maxL := 2) (ret := (some .int)) (own := RX1) (by decide) rfl rfl (Nat.le_of_ble_eq_true rfl) rfl ?_
  intro p e s m args below meth c A Q hC hr hQ hEx hl9
  have hin0 : ∀ w ∈ u_ws RX0 TX0 2, w ∈ wsX1_length := by decide +kernel
  have hl47 : Cond.fieldLink RX1 47 "Rootrows$Row" "size" "I" ∈ wsX1_length := by decide +kernel
  refine gAloadN (pc := 0) hC dX1_length_0 rfl 0 rfl ?_
  refine gIloadN (pc := 1) hC dX1_length_1 rfl 1 rfl ?_
  refine gVX (pc := 2) (rest := []) (ci := 1) (q0 := 0) hC hEx hl9 (c_X1_rowAt l D L σ x) rfl rfl (cwV 1 hC.2.2.2.2.1 gX1_length_X1_rowAt rfl rfl rfl (by decide +kernel) ⟨Nat.le_of_ble_eq_true rfl, Nat.le_of_ble_eq_true rfl⟩) rfl rfl (Nat.le_of_ble_eq_true rfl) dX1_length_2 ⟨Nat.le_of_ble_eq_true rfl, Nat.le_of_ble_eq_true rfl⟩ hQ (Nat.le_of_ble_eq_true rfl) (Nat.le_of_ble_eq_true rfl) (fun E w1 h => ⟨_, h.2.1, hR, ⟨h.1, kk1_1 h.2.2⟩⟩) (fun v w1 hp => ?_)
  obtain ⟨ok, rfl, rfl⟩ := hp
  refine gStk (st' := [.ref (la L (rI x))]) (pc' := 5) rfl rfl ?_
  obtain ⟨hi, ei⟩ := ok.get
  obtain ⟨hl_, hF⟩ := hR.2.2 (rI x) hi
  have hN := hl_.N
  have hL := hN.le
  refine cGetSize (pc := 5) hC (K := (rI x)) (v := (nI (Δ.2.1 (rI x)))) (by omega) hin0 hl47 (hF.1) dX1_length_5 ?_
  exact gRetIX hC hQ hr (Nat.le_of_ble_eq_true rfl) (Nat.le_of_ble_eq_true rfl) dX1_length_8 (⟨kk1_0 ok, rfl, σ, rfl, hR⟩)

abbrev rmX1_number : Room := { frames := 7, cells := 2, slots := 12, locals := 103 }
set_option maxRecDepth 100000 in
set_option maxHeartbeats 4000000 in
theorem c_X1_number (l : Launch) (D : va_G) (L : cLay) (σ : cSt) (Δ : dSt) (x : Int32) (y : Int32) (hR : cRel σ Δ)  : gX l yX1_number wsX1_number rmX1_number D (cTy L) (WC L σ) [.ref (lx L), .int x, .int y] 2 12 (fun r w => kk1 (okR x ∧ okP y (Δ.2.1 (rI x))) = 0 ∧ r = some (.int (nI ((Δ.2.2 (rI x)) (rI y)).val)) ∧ ∃ σ', w = WC L σ' ∧ cRel σ' Δ) (fun E w => ∃ σ', w = WC L σ' ∧ cRel σ' Δ ∧ ((E = XI ∧ kk1 (okR x ∧ okP y (Δ.2.1 (rI x))) = 1))) := by
  refine gX.of (cc := cX1_number) (maxL := 4) (ret := (some .int)) (own := RX1) (by decide) rfl rfl (Nat.le_of_ble_eq_true rfl) rfl ?_
  intro p e s m args below meth c A Q hC hr hQ hEx hl9
  have hin0 : ∀ w ∈ u_ws RX0 TX0 2, w ∈ wsX1_number := by decide +kernel
  have hl60 : Cond.fieldLink RX1 60 "Rootrows$Row" "numbers" "[I" ∈ wsX1_number := by decide +kernel
  refine gAloadN (pc := 0) hC dX1_number_0 rfl 0 rfl ?_
  refine gIloadN (pc := 1) hC dX1_number_1 rfl 1 rfl ?_
  refine gVX (pc := 2) (rest := []) (ci := 1) (q0 := 0) hC hEx hl9 (c_X1_rowAt l D L σ x) rfl rfl (cwV 1 hC.2.2.2.2.1 gX1_number_X1_rowAt rfl rfl rfl (by decide +kernel) ⟨Nat.le_of_ble_eq_true rfl, Nat.le_of_ble_eq_true rfl⟩) rfl rfl (Nat.le_of_ble_eq_true rfl) dX1_number_2 ⟨Nat.le_of_ble_eq_true rfl, Nat.le_of_ble_eq_true rfl⟩ hQ (Nat.le_of_ble_eq_true rfl) (Nat.le_of_ble_eq_true rfl) (fun E w1 h => ⟨_, h.2.1, hR, ⟨h.1, kk1_1 (fun q => h.2.2 q.1)⟩⟩) (fun v w1 hp => ?_)
  obtain ⟨ok, rfl, rfl⟩ := hp
  refine gStk (st' := [.ref (la L (rI x))]) (pc' := 5) rfl rfl ?_
  obtain ⟨hi, ei⟩ := ok.get
  obtain ⟨hl_, hF⟩ := hR.2.2 (rI x) hi
  have hN := hl_.N
  have hL := hN.le
  refine gAstoreN (pc := 5) hC (lv' := [(3, .ref (la L (rI x))), (0, .ref (lx L)), (1, .int x), (2, .int y)]) dX1_number_5 rfl (by decide) rfl ?_
  refine gAloadN (pc := 6) hC dX1_number_6 rfl 0 rfl ?_
  refine gIloadN (pc := 7) hC dX1_number_7 rfl 3 rfl ?_
  refine gSX (pc := 8) (rest := []) hC hEx hl9 (c_X1_needPlace l D L σ (rI x) (Δ.2.1 (rI x)) (Δ.2.2 (rI x)) y (by omega) hF) (va_cwS 2 hC.2.2.2.2.1 gX1_number_X1_needPlace rfl rfl rfl (by decide +kernel) ⟨Nat.le_of_ble_eq_true rfl, Nat.le_of_ble_eq_true rfl⟩) rfl rfl (Nat.le_of_ble_eq_true rfl) dX1_number_8 ⟨Nat.le_of_ble_eq_true rfl, Nat.le_of_ble_eq_true rfl⟩ hQ (Nat.le_of_ble_eq_true rfl) (Nat.le_of_ble_eq_true rfl) (fun E w1 h => ⟨_, h.2.1, hR, ⟨h.1, kk1_1 (fun q => h.2.2 q.2)⟩⟩) (fun v w1 hp => ?_)
  obtain ⟨okp, rfl, rfl⟩ := hp
  refine gStk (st' := []) (pc' := 11) rfl rfl ?_
  obtain ⟨hp, ep⟩ := okp.get (by omega)
  refine gAloadN (pc := 11) hC dX1_number_11 rfl 0 rfl ?_
  refine cGetNums (pc := 12) hC (K := (rI x)) (by omega) hin0 hl60 dX1_number_12 ?_
  refine gIloadN (pc := 15) hC dX1_number_15 rfl 3 rfl ?_
  refine cNumLd (pc := 16) hC (K := (rI x)) (v := (nI ((Δ.2.2 (rI x)) (rI y)).val)) (by omega) (rI y) (ep) (by omega) (hF.2 _ (by omega)) dX1_number_16 ?_
  exact gRetIX hC hQ hr (Nat.le_of_ble_eq_true rfl) (Nat.le_of_ble_eq_true rfl) dX1_number_17 (⟨kk1_0 (⟨ok, okp⟩), rfl, σ, rfl, hR⟩)

theorem odd_get {x : Int32} (h : ¬ x < nI 1 ∧ ¬ nI 31 < x ∧ ¬ x &&& nI 1 = 0) : okO (rI x) ∧ x = nI (rI x) := by
  obtain ⟨h1, h2, h3⟩ := h
  have h0 : ¬ x < 0 := fun q => h1 (Int32.lt_of_lt_of_le q (by decide))
  obtain ⟨j, hj, rfl⟩ := nI_of2 (M := nI 31) (n := 31) rfl h0 (Int32.not_lt.mp h2)
  rw [rI_nI (by omega)]
  refine ⟨?_, rfl⟩
  rw [pk_andN (by omega) 1 (by decide)] at h3
  unfold okO
  refine ⟨?_, by omega⟩
  rcases Nat.mod_two_eq_zero_or_one j with q | q
  · rw [show j % 2 ^ 1 = 0 from q] at h3; exact absurd rfl h3
  · exact q

abbrev rmX1_useOdd : Room := { frames := 6, cells := 1, slots := 6, locals := 82 }
set_option maxRecDepth 100000 in
set_option maxHeartbeats 4000000 in
theorem c_X1_useOdd (l : Launch) (D : va_G) (L : cLay) (σ : cSt) (Δ : dSt) (x : Int32) (hR : cRel σ Δ)  : gX l yX1_useOdd wsX1_useOdd rmX1_useOdd D (cTy L) (WC L σ) [.ref (lx L), .int x] 1 6 (fun r w => kk1 (¬ x < nI 1 ∧ ¬ nI 31 < x ∧ ¬ x &&& nI 1 = 0) = 0 ∧ r = some (.int (nI Δ.1)) ∧ ∃ σ', w = WC L σ' ∧ cRel σ' (rI x, Δ.2)) (fun E w => ∃ σ', w = WC L σ' ∧ cRel σ' Δ ∧ ((E = XA ∧ kk1 (¬ x < nI 1 ∧ ¬ nI 31 < x ∧ ¬ x &&& nI 1 = 0) = 1))) := by
  refine gX.of (cc := cX1_useOdd) (maxL := 3) (ret := (some .int)) (own := RX1) (by decide) rfl rfl (Nat.le_of_ble_eq_true rfl) rfl ?_
  intro p e s m args below meth c A Q hC hr hQ hEx hl9
  have hin1 : ∀ w ∈ u_ws RX1 TX1 8, w ∈ wsX1_useOdd := by decide +kernel
  have hl35 : Cond.fieldLink RX1 35 "Rootrows" "odd" "I" ∈ wsX1_useOdd := by decide +kernel
  refine gIloadN (pc := 0) hC dX1_useOdd_0 rfl 1 rfl ?_
  refine gIconst (pc := 1) hC (v := (nI 1)) dX1_useOdd_1 (by decide +kernel) ?_
  refine gIcmp_lt (pc := 2) hC (tgt := 17) dX1_useOdd_2 (by decide) (fun hc1 => ?_) (fun hc1 => ?_)
  · skip
    exact gThrow (pc := 17) (E := "java/lang/IllegalArgumentException") (text := "odd is even or out of range") hC hEx hl9 (by decide +kernel) (by decide +kernel) (by decide +kernel) (by decide +kernel) (by decide +kernel) (by decide +kernel) (by decide +kernel) dX1_useOdd_17 dX1_useOdd_20 dX1_useOdd_21 dX1_useOdd_23 dX1_useOdd_26 (Nat.le_of_ble_eq_true rfl) (Nat.le_of_ble_eq_true rfl) (Nat.le_of_ble_eq_true rfl) (Nat.le_of_ble_eq_true rfl) (Nat.le_of_ble_eq_true rfl) (Nat.le_of_ble_eq_true rfl) hQ (⟨σ, rfl, hR, ⟨rfl, kk1_1 (fun q => q.1 hc1)⟩⟩)
  · skip
    refine gIloadN (pc := 5) hC dX1_useOdd_5 rfl 1 rfl ?_
    refine gBipush (pc := 6) hC (v := (nI 31)) dX1_useOdd_6 (by decide +kernel) ?_
    refine gIcmp_gt (pc := 8) hC (tgt := 17) dX1_useOdd_8 (by decide) (fun hc2 => ?_) (fun hc2 => ?_)
    · skip
      exact gThrow (pc := 17) (E := "java/lang/IllegalArgumentException") (text := "odd is even or out of range") hC hEx hl9 (by decide +kernel) (by decide +kernel) (by decide +kernel) (by decide +kernel) (by decide +kernel) (by decide +kernel) (by decide +kernel) dX1_useOdd_17 dX1_useOdd_20 dX1_useOdd_21 dX1_useOdd_23 dX1_useOdd_26 (Nat.le_of_ble_eq_true rfl) (Nat.le_of_ble_eq_true rfl) (Nat.le_of_ble_eq_true rfl) (Nat.le_of_ble_eq_true rfl) (Nat.le_of_ble_eq_true rfl) (Nat.le_of_ble_eq_true rfl) hQ (⟨σ, rfl, hR, ⟨rfl, kk1_1 (fun q => q.2.1 hc2)⟩⟩)
    · skip
      refine gIloadN (pc := 11) hC dX1_useOdd_11 rfl 1 rfl ?_
      refine gIconst (pc := 12) hC (v := (nI 1)) dX1_useOdd_12 (by decide +kernel) ?_
      refine gIand (pc := 13) hC dX1_useOdd_13 rfl ?_
      refine gIf_ne (pc := 14) hC (tgt := 27) dX1_useOdd_14 (by decide) (fun hc3 => ?_) (fun hc3 => ?_)
      · skip
        have okq : ¬ x < nI 1 ∧ ¬ nI 31 < x ∧ ¬ x &&& nI 1 = 0 := ⟨hc1, hc2, hc3⟩
        obtain ⟨hq, eq⟩ := odd_get okq
        refine gAloadN (pc := 27) hC dX1_useOdd_27 rfl 0 rfl ?_
        refine cGetOdd (pc := 28) hC hin1 hl35 rfl dX1_useOdd_28 ?_
        refine gIstoreN (pc := 31) hC (lv' := [(2, .int (σ.1)), (0, .ref (lx L)), (1, .int x)]) dX1_useOdd_31 rfl (by decide) rfl ?_
        refine gAloadN (pc := 32) hC dX1_useOdd_32 rfl 1 rfl ?_
        refine gIloadN (pc := 33) hC dX1_useOdd_33 rfl 2 rfl ?_
        refine cPutOdd (pc := 34) hC hin1 hl35 dX1_useOdd_34 ?_
        refine gIloadN (pc := 37) hC dX1_useOdd_37 rfl 0 rfl ?_
        exact gRetIX hC hQ hr (Nat.le_of_ble_eq_true rfl) (Nat.le_of_ble_eq_true rfl) dX1_useOdd_38 (⟨kk1_0 okq, by rw [hR.1], _, rfl, eq, hq, hR.2.2⟩)
      · skip
        exact gThrow (pc := 17) (E := "java/lang/IllegalArgumentException") (text := "odd is even or out of range") hC hEx hl9 (by decide +kernel) (by decide +kernel) (by decide +kernel) (by decide +kernel) (by decide +kernel) (by decide +kernel) (by decide +kernel) dX1_useOdd_17 dX1_useOdd_20 dX1_useOdd_21 dX1_useOdd_23 dX1_useOdd_26 (Nat.le_of_ble_eq_true rfl) (Nat.le_of_ble_eq_true rfl) (Nat.le_of_ble_eq_true rfl) (Nat.le_of_ble_eq_true rfl) (Nat.le_of_ble_eq_true rfl) (Nat.le_of_ble_eq_true rfl) hQ (⟨σ, rfl, hR, ⟨rfl, kk1_1 (fun q => q.2.2 hc3)⟩⟩)

abbrev rmX1_root : Room := { frames := 7, cells := 1, slots := 6, locals := 102 }
set_option maxRecDepth 100000 in
set_option maxHeartbeats 4000000 in
theorem c_X1_root (l : Launch) (D : va_G) (L : cLay) (σ : cSt) (Δ : dSt) (x : Int32) (hR : cRel σ Δ)  : gX l yX1_root wsX1_root rmX1_root D (cTy L) (WC L σ) [.ref (lx L), .int x] 1 6 (fun r w => kk1 (okLI x) = 0 ∧ r = some (.int (nI (pz (un Δ.1 (rI x) * 1)).val)) ∧ ∃ σ', w = WC L σ' ∧ cRel σ' Δ) (fun E w => ∃ σ', w = WC L σ' ∧ cRel σ' Δ ∧ ((E = XA ∧ kk1 (okLI x) = 1))) := by
  refine gX.of (cc := cX1_root) (maxL := 2) (ret := (some .int)) (own := RX1) (by decide) rfl rfl (Nat.le_of_ble_eq_true rfl) rfl ?_
  intro p e s m args below meth c A Q hC hr hQ hEx hl9
  refine gIloadN (pc := 0) hC dX1_root_0 rfl 1 rfl ?_
  refine gSX (pc := 1) (rest := []) hC hEx hl9 (c_X1_needLength l D (cTy L) _ x) (va_cwS 1 hC.2.2.2.2.1 gX1_root_X1_needLength rfl rfl rfl (by decide +kernel) ⟨Nat.le_of_ble_eq_true rfl, Nat.le_of_ble_eq_true rfl⟩) rfl rfl (Nat.le_of_ble_eq_true rfl) dX1_root_1 ⟨Nat.le_of_ble_eq_true rfl, Nat.le_of_ble_eq_true rfl⟩ hQ (Nat.le_of_ble_eq_true rfl) (Nat.le_of_ble_eq_true rfl) (fun E w1 h => ⟨_, h.2.1, hR, ⟨h.1, kk1_1 h.2.2⟩⟩) (fun v w1 hp => ?_)
  obtain ⟨okl, rfl, rfl⟩ := hp
  refine gStk (st' := []) (pc' := 4) rfl rfl ?_
  obtain ⟨hy, ey⟩ := okl.get
  refine gAloadN (pc := 4) hC dX1_root_4 rfl 0 rfl ?_
  refine gIloadN (pc := 5) hC dX1_root_5 rfl 1 rfl ?_
  refine gIconst (pc := 6) hC (v := (nI 1)) dX1_root_6 (by decide +kernel) ?_
  have hx2 : Value.int x = Value.int (nI (rI x)) := congrArg Value.int ey
  refine gStk (st' := [.int (nI 1), .int (nI (rI x)), .ref (lx L)]) (pc' := 7) (by rw [← hx2]) rfl ?_
  refine gV (pc := 7) (rest := []) (ci := 1) (q0 := 0) hC (c_X1_rootTo l D L σ (rI x) Δ.1 (nI 1) (1) hy.N hR.1 rfl) rfl rfl (cwV 2 hC.2.2.2.2.1 gX1_root_X1_rootTo rfl rfl rfl (by decide +kernel) ⟨Nat.le_of_ble_eq_true rfl, Nat.le_of_ble_eq_true rfl⟩) rfl rfl (Nat.le_of_ble_eq_true rfl) dX1_root_7 ⟨Nat.le_of_ble_eq_true rfl, Nat.le_of_ble_eq_true rfl⟩ (fun v w1 hp => ?_)
  obtain ⟨rfl, rfl⟩ := hp
  refine gStk (st' := [.int (nI (pz (un Δ.1 (rI x) * 1)).val)]) (pc' := 10) rfl rfl ?_
  exact gRetIX hC hQ hr (Nat.le_of_ble_eq_true rfl) (Nat.le_of_ble_eq_true rfl) dX1_root_10 (⟨kk1_0 okl, rfl, σ, rfl, hR⟩)

abbrev rmX1_power : Room := { frames := 7, cells := 1, slots := 6, locals := 102 }
set_option maxRecDepth 100000 in
set_option maxHeartbeats 4000000 in
theorem c_X1_power (l : Launch) (D : va_G) (L : cLay) (σ : cSt) (Δ : dSt) (x : Int32) (y : Int32) (hR : cRel σ Δ)  : gX l yX1_power wsX1_power rmX1_power D (cTy L) (WC L σ) [.ref (lx L), .int x, .int y] 1 6 (fun r w => kk1 (okLI x) = 0 ∧ r = some (.int (nI (pz (un Δ.1 (rI x) * y.toInt)).val)) ∧ ∃ σ', w = WC L σ' ∧ cRel σ' Δ) (fun E w => ∃ σ', w = WC L σ' ∧ cRel σ' Δ ∧ ((E = XA ∧ kk1 (okLI x) = 1))) := by
  refine gX.of (cc := cX1_power) (maxL := 3) (ret := (some .int)) (own := RX1) (by decide) rfl rfl (Nat.le_of_ble_eq_true rfl) rfl ?_
  intro p e s m args below meth c A Q hC hr hQ hEx hl9
  refine gIloadN (pc := 0) hC dX1_power_0 rfl 1 rfl ?_
  refine gSX (pc := 1) (rest := []) hC hEx hl9 (c_X1_needLength l D (cTy L) _ x) (va_cwS 1 hC.2.2.2.2.1 gX1_power_X1_needLength rfl rfl rfl (by decide +kernel) ⟨Nat.le_of_ble_eq_true rfl, Nat.le_of_ble_eq_true rfl⟩) rfl rfl (Nat.le_of_ble_eq_true rfl) dX1_power_1 ⟨Nat.le_of_ble_eq_true rfl, Nat.le_of_ble_eq_true rfl⟩ hQ (Nat.le_of_ble_eq_true rfl) (Nat.le_of_ble_eq_true rfl) (fun E w1 h => ⟨_, h.2.1, hR, ⟨h.1, kk1_1 h.2.2⟩⟩) (fun v w1 hp => ?_)
  obtain ⟨okl, rfl, rfl⟩ := hp
  refine gStk (st' := []) (pc' := 4) rfl rfl ?_
  obtain ⟨hy, ey⟩ := okl.get
  refine gAloadN (pc := 4) hC dX1_power_4 rfl 0 rfl ?_
  refine gIloadN (pc := 5) hC dX1_power_5 rfl 1 rfl ?_
  refine gIloadN (pc := 6) hC dX1_power_6 rfl 2 rfl ?_
  have hx2 : Value.int x = Value.int (nI (rI x)) := congrArg Value.int ey
  refine gStk (st' := [.int y, .int (nI (rI x)), .ref (lx L)]) (pc' := 7) (by rw [← hx2]) rfl ?_
  refine gV (pc := 7) (rest := []) (ci := 1) (q0 := 0) hC (c_X1_rootTo l D L σ (rI x) Δ.1 y (y.toInt) hy.N hR.1 rfl) rfl rfl (cwV 2 hC.2.2.2.2.1 gX1_power_X1_rootTo rfl rfl rfl (by decide +kernel) ⟨Nat.le_of_ble_eq_true rfl, Nat.le_of_ble_eq_true rfl⟩) rfl rfl (Nat.le_of_ble_eq_true rfl) dX1_power_7 ⟨Nat.le_of_ble_eq_true rfl, Nat.le_of_ble_eq_true rfl⟩ (fun v w1 hp => ?_)
  obtain ⟨rfl, rfl⟩ := hp
  refine gStk (st' := [.int (nI (pz (un Δ.1 (rI x) * y.toInt)).val)]) (pc' := 10) rfl rfl ?_
  exact gRetIX hC hQ hr (Nat.le_of_ble_eq_true rfl) (Nat.le_of_ble_eq_true rfl) dX1_power_10 (⟨kk1_0 okl, rfl, σ, rfl, hR⟩)
