abbrev rmL_make : Room := { frames := 8, cells := 2, slots := 12, locals := 127 }
set_option maxRecDepth 100000 in
set_option maxHeartbeats 4000000 in
theorem c_L_make (l : Launch) (D : va_G) (q : wLay) (σ : cSt) (μ : mSt) (f : Nat → Int64) (g : Nat → UInt64) (Δ : dSt) (x : Int32) (y : Int32) (hR : cRel σ Δ) : gX l yL_make wsL_make rmL_make D (wTy q) (WC (LC q f g μ) σ) [.ref (wx q), .int x, .int y, .ref (wo q)] 2 12 (wPost q g μ Δ (dRow Δ (rI x) (rI y) (fun _ => 0)) (kk2 (okR x) (okLI y)) (fun t : Int64 => ∃ v : Int32, t = v.toInt64 ∧ (fun b => b = nI (Δ.2.1 (rI x))) v)) (fun _ _ => False) := by
  refine gX.ofH (cc := cL_make) (maxL := 5) (ret := (some .int)) (own := RL) (by decide) rfl rfl (Nat.le_of_ble_eq_true rfl) rfl ?_
  intro p e s m args below meth c A Q hC hr hQ hT hl9
  refine gAloadN (pc := 0) hC dL_make_0 rfl 3 rfl ?_
  refine gIconst (pc := 1) hC (v := (nI 0)) dL_make_1 (by decide +kernel) ?_
  refine gAloadN (pc := 2) hC dL_make_2 rfl 0 rfl ?_
  refine gIloadN (pc := 3) hC dL_make_3 rfl 1 rfl ?_
  refine gIloadN (pc := 4) hC dL_make_4 rfl 2 rfl ?_
  refine gVH (pc := 5) (rest := [.int (nI 0), .ref (wo q)]) (ci := 1) (q0 := 0) hC hl9 (c_X1_make l D (LC q f g μ) σ Δ x y hR) rfl rfl (cwV 2 hC.2.2.2.2.1 gL_make_X1_make rfl rfl rfl (by decide +kernel) ⟨Nat.le_of_ble_eq_true rfl, Nat.le_of_ble_eq_true rfl⟩) rfl rfl (Nat.le_of_ble_eq_true rfl) dL_make_5 ⟨Nat.le_of_ble_eq_true rfl, Nat.le_of_ble_eq_true rfl⟩ (fun E w1 hx => ?_) (fun v w1 hp => ?_)
  · skip
    obtain ⟨σ1, rfl, h1, hE⟩ := hx
    rcases hE with ⟨rfl, hK⟩ | ⟨rfl, hK⟩
    · skip
      refine gHdN (pc := 5) hC [] (0, 10, 13, 13) [(0, 10, 17, 15)] hT rfl (fun z hz => absurd hz List.not_mem_nil) (by decide +kernel) (by decide) (by decide +kernel) (by decide +kernel) (fun a => ?_)
      refine gStk (st' := [.ref a]) (pc' := 13) rfl rfl ?_
      refine gAstore (pc := 13) hC (lv' := [(4, .ref a), (0, .ref (wx q)), (1, .int x), (2, .int y), (3, .ref (wo q))]) dL_make_13 (by decide) rfl ?_
      refine gIconst (pc := 15) hC (v := (nI 1)) dL_make_15 (by decide +kernel) ?_
      exact gRetIX hC hQ hr (Nat.le_of_ble_eq_true rfl) (Nat.le_of_ble_eq_true rfl) dL_make_16 (⟨by rw [hK], σ1, f, rfl, Or.inr ⟨by rw [hK]; decide, h1⟩⟩)
    · skip
      refine gHdN (pc := 5) hC [(0, 10, 13, 13)] (0, 10, 17, 15) [] hT rfl (by intro z hz; simp only [List.mem_cons, List.not_mem_nil, or_false] at hz; subst hz; exact ⟨by decide, "java/lang/IndexOutOfBoundsException", (by decide +kernel), (by decide +kernel)⟩) (by decide +kernel) (by decide) (by decide +kernel) (by decide +kernel) (fun a => ?_)
      refine gStk (st' := [.ref a]) (pc' := 17) rfl rfl ?_
      refine gAstore (pc := 17) hC (lv' := [(4, .ref a), (0, .ref (wx q)), (1, .int x), (2, .int y), (3, .ref (wo q))]) dL_make_17 (by decide) rfl ?_
      refine gIconst (pc := 19) hC (v := (nI 2)) dL_make_19 (by decide +kernel) ?_
      exact gRetIX hC hQ hr (Nat.le_of_ble_eq_true rfl) (Nat.le_of_ble_eq_true rfl) dL_make_20 (⟨by rw [hK], σ1, f, rfl, Or.inr ⟨by rw [hK]; decide, h1⟩⟩)
  · skip
    obtain ⟨hK, rfl, σ1, rfl, h1⟩ := hp
    obtain ⟨v0, hv0⟩ : ∃ v0, v0 = (nI (Δ.2.1 (rI x))) := ⟨_, rfl⟩
    refine gStk (st' := [.int (nI (Δ.2.1 (rI x))), .int (nI 0), .ref (wo q)]) (pc' := 8) rfl rfl ?_
    rw [← hv0]
    refine gI2l (pc := 8) hC dL_make_8 rfl ?_
    refine gLast (pc := 9) (ws' := WC (LC q (vp_updL f 0 v0.toInt64) g μ) σ1) hC 0 rfl (by decide) (by decide) 22 3 rfl rfl dL_make_9 (wo_set ..) ?_
    refine gGoto (pc := 10) hC (tgt := 21) dL_make_10 (by decide) ?_
    refine gIconst (pc := 21) hC (v := (nI 0)) dL_make_21 (by decide +kernel) ?_
    exact gRetIX hC hQ hr (Nat.le_of_ble_eq_true rfl) (Nat.le_of_ble_eq_true rfl) dL_make_22 (⟨by rw [hK], σ1, _, rfl, Or.inl ⟨hK, ⟨_, rfl, hv0⟩, h1⟩⟩)

abbrev rmL_set : Room := { frames := 8, cells := 3, slots := 18, locals := 128 }
set_option maxRecDepth 100000 in
set_option maxHeartbeats 4000000 in
theorem c_L_set (l : Launch) (D : va_G) (q : wLay) (σ : cSt) (μ : mSt) (f : Nat → Int64) (g : Nat → UInt64) (Δ : dSt) (x : Int32) (y : Int32) (z : Int32) (hR : cRel σ Δ) : gX l yL_set wsL_set rmL_set D (wTy q) (WC (LC q f g μ) σ) [.ref (wx q), .int x, .int y, .int z, .ref (wo q)] 3 18 (wPost q g μ Δ (dRow Δ (rI x) (Δ.2.1 (rI x)) (fun j => if j = (rI y) then nu z else (Δ.2.2 (rI x)) j)) (kk2 (okR x ∧ okP y (Δ.2.1 (rI x))) (okNum z)) (fun t : Int64 => ∃ v : Int32, t = v.toInt64 ∧ (fun b => b = nI ((Δ.2.2 (rI x)) (rI y)).val) v)) (fun _ _ => False) := by
  refine gX.ofH (cc := cL_set) (maxL := 6) (ret := (some .int)) (own := RL) (by decide) rfl rfl (Nat.le_of_ble_eq_true rfl) rfl ?_
  intro p e s m args below meth c A Q hC hr hQ hT hl9
  refine gAload (pc := 0) hC dL_set_0 4 rfl ?_
  refine gIconst (pc := 2) hC (v := (nI 0)) dL_set_2 (by decide +kernel) ?_
  refine gAloadN (pc := 3) hC dL_set_3 rfl 0 rfl ?_
  refine gIloadN (pc := 4) hC dL_set_4 rfl 1 rfl ?_
  refine gIloadN (pc := 5) hC dL_set_5 rfl 2 rfl ?_
  refine gIloadN (pc := 6) hC dL_set_6 rfl 3 rfl ?_
  refine gVH (pc := 7) (rest := [.int (nI 0), .ref (wo q)]) (ci := 1) (q0 := 0) hC hl9 (c_X1_set l D (LC q f g μ) σ Δ x y z hR) rfl rfl (cwV 3 hC.2.2.2.2.1 gL_set_X1_set rfl rfl rfl (by decide +kernel) ⟨Nat.le_of_ble_eq_true rfl, Nat.le_of_ble_eq_true rfl⟩) rfl rfl (Nat.le_of_ble_eq_true rfl) dL_set_7 ⟨Nat.le_of_ble_eq_true rfl, Nat.le_of_ble_eq_true rfl⟩ (fun E w1 hx => ?_) (fun v w1 hp => ?_)
  · skip
    obtain ⟨σ1, rfl, h1, hE⟩ := hx
    rcases hE with ⟨rfl, hK⟩ | ⟨rfl, hK⟩
    · skip
      refine gHdN (pc := 7) hC [] (0, 12, 15, 13) [(0, 12, 19, 15)] hT rfl (fun z hz => absurd hz List.not_mem_nil) (by decide +kernel) (by decide) (by decide +kernel) (by decide +kernel) (fun a => ?_)
      refine gStk (st' := [.ref a]) (pc' := 15) rfl rfl ?_
      refine gAstore (pc := 15) hC (lv' := [(5, .ref a), (0, .ref (wx q)), (1, .int x), (2, .int y), (3, .int z), (4, .ref (wo q))]) dL_set_15 (by decide) rfl ?_
      refine gIconst (pc := 17) hC (v := (nI 1)) dL_set_17 (by decide +kernel) ?_
      exact gRetIX hC hQ hr (Nat.le_of_ble_eq_true rfl) (Nat.le_of_ble_eq_true rfl) dL_set_18 (⟨by rw [hK], σ1, f, rfl, Or.inr ⟨by rw [hK]; decide, h1⟩⟩)
    · skip
      refine gHdN (pc := 7) hC [(0, 12, 15, 13)] (0, 12, 19, 15) [] hT rfl (by intro z hz; simp only [List.mem_cons, List.not_mem_nil, or_false] at hz; subst hz; exact ⟨by decide, "java/lang/IndexOutOfBoundsException", (by decide +kernel), (by decide +kernel)⟩) (by decide +kernel) (by decide) (by decide +kernel) (by decide +kernel) (fun a => ?_)
      refine gStk (st' := [.ref a]) (pc' := 19) rfl rfl ?_
      refine gAstore (pc := 19) hC (lv' := [(5, .ref a), (0, .ref (wx q)), (1, .int x), (2, .int y), (3, .int z), (4, .ref (wo q))]) dL_set_19 (by decide) rfl ?_
      refine gIconst (pc := 21) hC (v := (nI 2)) dL_set_21 (by decide +kernel) ?_
      exact gRetIX hC hQ hr (Nat.le_of_ble_eq_true rfl) (Nat.le_of_ble_eq_true rfl) dL_set_22 (⟨by rw [hK], σ1, f, rfl, Or.inr ⟨by rw [hK]; decide, h1⟩⟩)
  · skip
    obtain ⟨hK, rfl, σ1, rfl, h1⟩ := hp
    obtain ⟨v0, hv0⟩ : ∃ v0, v0 = (nI ((Δ.2.2 (rI x)) (rI y)).val) := ⟨_, rfl⟩
    refine gStk (st' := [.int (nI ((Δ.2.2 (rI x)) (rI y)).val), .int (nI 0), .ref (wo q)]) (pc' := 10) rfl rfl ?_
    rw [← hv0]
    refine gI2l (pc := 10) hC dL_set_10 rfl ?_
    refine gLast (pc := 11) (ws' := WC (LC q (vp_updL f 0 v0.toInt64) g μ) σ1) hC 0 rfl (by decide) (by decide) 22 3 rfl rfl dL_set_11 (wo_set ..) ?_
    refine gGoto (pc := 12) hC (tgt := 23) dL_set_12 (by decide) ?_
    refine gIconst (pc := 23) hC (v := (nI 0)) dL_set_23 (by decide +kernel) ?_
    exact gRetIX hC hQ hr (Nat.le_of_ble_eq_true rfl) (Nat.le_of_ble_eq_true rfl) dL_set_24 (⟨by rw [hK], σ1, _, rfl, Or.inl ⟨hK, ⟨_, rfl, hv0⟩, h1⟩⟩)

abbrev rmL_fill : Room := { frames := 8, cells := 2, slots := 12, locals := 129 }
set_option maxRecDepth 100000 in
set_option maxHeartbeats 4000000 in
theorem c_L_fill (l : Launch) (D : va_G) (q : wLay) (σ : cSt) (μ : mSt) (f : Nat → Int64) (g : Nat → UInt64) (Δ : dSt) (x : Int32) (y : Int32) (z : Int32) (hR : cRel σ Δ) : gX l yL_fill wsL_fill rmL_fill D (wTy q) (WC (LC q f g μ) σ) [.ref (wx q), .int x, .int y, .int z, .ref (wo q)] 2 12 (wPost q g μ Δ (dRow Δ (rI x) (Δ.2.1 (rI x)) (fun j => if rI y ≤ j then nu z else (Δ.2.2 (rI x)) j)) (kk2 (okR x ∧ ¬ y < 0 ∧ ¬ nI (Δ.2.1 (rI x)) < y) (okNum z)) (fun t : Int64 => ∃ v : Int32, t = v.toInt64 ∧ (fun b => b = nI (cd (Δ.2.2 (rI x)) (fun j => if rI y ≤ j then nu z else (Δ.2.2 (rI x)) j) (Δ.2.1 (rI x)))) v)) (fun _ _ => False) := by
  refine gX.ofH (cc := cL_fill) (maxL := 6) (ret := (some .int)) (own := RL) (by decide) rfl rfl (Nat.le_of_ble_eq_true rfl) rfl ?_
  intro p e s m args below meth c A Q hC hr hQ hT hl9
  refine gAload (pc := 0) hC dL_fill_0 4 rfl ?_
  refine gIconst (pc := 2) hC (v := (nI 0)) dL_fill_2 (by decide +kernel) ?_
  refine gAloadN (pc := 3) hC dL_fill_3 rfl 0 rfl ?_
  refine gIloadN (pc := 4) hC dL_fill_4 rfl 1 rfl ?_
  refine gIloadN (pc := 5) hC dL_fill_5 rfl 2 rfl ?_
  refine gIloadN (pc := 6) hC dL_fill_6 rfl 3 rfl ?_
  refine gVH (pc := 7) (rest := [.int (nI 0), .ref (wo q)]) (ci := 1) (q0 := 0) hC hl9 (c_X1_fill l D (LC q f g μ) σ Δ x y z hR) rfl rfl (cwV 3 hC.2.2.2.2.1 gL_fill_X1_fill rfl rfl rfl (by decide +kernel) ⟨Nat.le_of_ble_eq_true rfl, Nat.le_of_ble_eq_true rfl⟩) rfl rfl (Nat.le_of_ble_eq_true rfl) dL_fill_7 ⟨Nat.le_of_ble_eq_true rfl, Nat.le_of_ble_eq_true rfl⟩ (fun E w1 hx => ?_) (fun v w1 hp => ?_)
  · skip
    obtain ⟨σ1, rfl, h1, hE⟩ := hx
    rcases hE with ⟨rfl, hK⟩ | ⟨rfl, hK⟩
    · skip
      refine gHdN (pc := 7) hC [] (0, 12, 15, 13) [(0, 12, 19, 15)] hT rfl (fun z hz => absurd hz List.not_mem_nil) (by decide +kernel) (by decide) (by decide +kernel) (by decide +kernel) (fun a => ?_)
      refine gStk (st' := [.ref a]) (pc' := 15) rfl rfl ?_
      refine gAstore (pc := 15) hC (lv' := [(5, .ref a), (0, .ref (wx q)), (1, .int x), (2, .int y), (3, .int z), (4, .ref (wo q))]) dL_fill_15 (by decide) rfl ?_
      refine gIconst (pc := 17) hC (v := (nI 1)) dL_fill_17 (by decide +kernel) ?_
      exact gRetIX hC hQ hr (Nat.le_of_ble_eq_true rfl) (Nat.le_of_ble_eq_true rfl) dL_fill_18 (⟨by rw [hK], σ1, f, rfl, Or.inr ⟨by rw [hK]; decide, h1⟩⟩)
    · skip
      refine gHdN (pc := 7) hC [(0, 12, 15, 13)] (0, 12, 19, 15) [] hT rfl (by intro z hz; simp only [List.mem_cons, List.not_mem_nil, or_false] at hz; subst hz; exact ⟨by decide, "java/lang/IndexOutOfBoundsException", (by decide +kernel), (by decide +kernel)⟩) (by decide +kernel) (by decide) (by decide +kernel) (by decide +kernel) (fun a => ?_)
      refine gStk (st' := [.ref a]) (pc' := 19) rfl rfl ?_
      refine gAstore (pc := 19) hC (lv' := [(5, .ref a), (0, .ref (wx q)), (1, .int x), (2, .int y), (3, .int z), (4, .ref (wo q))]) dL_fill_19 (by decide) rfl ?_
      refine gIconst (pc := 21) hC (v := (nI 2)) dL_fill_21 (by decide +kernel) ?_
      exact gRetIX hC hQ hr (Nat.le_of_ble_eq_true rfl) (Nat.le_of_ble_eq_true rfl) dL_fill_22 (⟨by rw [hK], σ1, f, rfl, Or.inr ⟨by rw [hK]; decide, h1⟩⟩)
  · skip
    obtain ⟨hK, rfl, σ1, rfl, h1⟩ := hp
    obtain ⟨v0, hv0⟩ : ∃ v0, v0 = (nI (cd (Δ.2.2 (rI x)) (fun j => if rI y ≤ j then nu z else (Δ.2.2 (rI x)) j) (Δ.2.1 (rI x)))) := ⟨_, rfl⟩
    refine gStk (st' := [.int (nI (cd (Δ.2.2 (rI x)) (fun j => if rI y ≤ j then nu z else (Δ.2.2 (rI x)) j) (Δ.2.1 (rI x)))), .int (nI 0), .ref (wo q)]) (pc' := 10) rfl rfl ?_
    rw [← hv0]
    refine gI2l (pc := 10) hC dL_fill_10 rfl ?_
    refine gLast (pc := 11) (ws' := WC (LC q (vp_updL f 0 v0.toInt64) g μ) σ1) hC 0 rfl (by decide) (by decide) 22 3 rfl rfl dL_fill_11 (wo_set ..) ?_
    refine gGoto (pc := 12) hC (tgt := 23) dL_fill_12 (by decide) ?_
    refine gIconst (pc := 23) hC (v := (nI 0)) dL_fill_23 (by decide +kernel) ?_
    exact gRetIX hC hQ hr (Nat.le_of_ble_eq_true rfl) (Nat.le_of_ble_eq_true rfl) dL_fill_24 (⟨by rw [hK], σ1, _, rfl, Or.inl ⟨hK, ⟨_, rfl, hv0⟩, h1⟩⟩)

abbrev rmL_copy : Room := { frames := 8, cells := 2, slots := 12, locals := 128 }
set_option maxRecDepth 100000 in
set_option maxHeartbeats 4000000 in
theorem c_L_copy (l : Launch) (D : va_G) (q : wLay) (σ : cSt) (μ : mSt) (f : Nat → Int64) (g : Nat → UInt64) (Δ : dSt) (x : Int32) (y : Int32) (hR : cRel σ Δ) : gX l yL_copy wsL_copy rmL_copy D (wTy q) (WC (LC q f g μ) σ) [.ref (wx q), .int x, .int y, .ref (wo q)] 2 12 (wPost q g μ Δ (dRow Δ (rI y) (Δ.2.1 (rI x)) (Δ.2.2 (rI x))) (kk1 (okR x ∧ okR y)) (fun t : Int64 => ∃ v : Int32, t = bl v ∧ (fun b => ((b = nI 0 ∧ dLike Δ (rI y) (rI x)) ∨ (b = nI 1 ∧ ¬ dLike Δ (rI y) (rI x)))) v)) (fun _ _ => False) := by
  refine gX.ofH (cc := cL_copy) (maxL := 5) (ret := (some .int)) (own := RL) (by decide) rfl rfl (Nat.le_of_ble_eq_true rfl) rfl ?_
  intro p e s m args below meth c A Q hC hr hQ hT hl9
  refine gAloadN (pc := 0) hC dL_copy_0 rfl 3 rfl ?_
  refine gIconst (pc := 1) hC (v := (nI 0)) dL_copy_1 (by decide +kernel) ?_
  refine gAloadN (pc := 2) hC dL_copy_2 rfl 0 rfl ?_
  refine gIloadN (pc := 3) hC dL_copy_3 rfl 1 rfl ?_
  refine gIloadN (pc := 4) hC dL_copy_4 rfl 2 rfl ?_
  refine gVH (pc := 5) (rest := [.int (nI 0), .ref (wo q)]) (ci := 1) (q0 := 0) hC hl9 (c_X1_copy l D (LC q f g μ) σ Δ x y hR) rfl rfl (cwV 2 hC.2.2.2.2.1 gL_copy_X1_copy rfl rfl rfl (by decide +kernel) ⟨Nat.le_of_ble_eq_true rfl, Nat.le_of_ble_eq_true rfl⟩) rfl rfl (Nat.le_of_ble_eq_true rfl) dL_copy_5 ⟨Nat.le_of_ble_eq_true rfl, Nat.le_of_ble_eq_true rfl⟩ (fun E w1 hx => ?_) (fun v w1 hp => ?_)
  · skip
    obtain ⟨σ1, rfl, h1, hE⟩ := hx
    obtain ⟨rfl, hK⟩ := hE
    refine gHdN (pc := 5) hC [] (0, 17, 20, 13) [] hT rfl (fun z hz => absurd hz List.not_mem_nil) (by decide +kernel) (by decide) (by decide +kernel) (by decide +kernel) (fun a => ?_)
    refine gStk (st' := [.ref a]) (pc' := 20) rfl rfl ?_
    refine gAstore (pc := 20) hC (lv' := [(4, .ref a), (0, .ref (wx q)), (1, .int x), (2, .int y), (3, .ref (wo q))]) dL_copy_20 (by decide) rfl ?_
    refine gIconst (pc := 22) hC (v := (nI 1)) dL_copy_22 (by decide +kernel) ?_
    exact gRetIX hC hQ hr (Nat.le_of_ble_eq_true rfl) (Nat.le_of_ble_eq_true rfl) dL_copy_23 (⟨by rw [hK], σ1, f, rfl, Or.inr ⟨by rw [hK]; decide, h1⟩⟩)
  · skip
    obtain ⟨hK, ⟨v1, rfl, hv1⟩, σ1, rfl, h1⟩ := hp
    obtain ⟨v0, hv0⟩ : ∃ v0, v0 = v1 := ⟨_, rfl⟩
    refine gStk (st' := [.int v1, .int (nI 0), .ref (wo q)]) (pc' := 8) rfl rfl ?_
    refine gNl (pc := 8) hC dL_copy_8 dL_copy_11 dL_copy_12 dL_copy_15 ?_
    refine gStk (st' := [.long (bl v1), .int (nI 0), .ref (wo q)]) (pc' := 16) rfl rfl ?_
    refine gLast (pc := 16) (ws' := WC (LC q (vp_updL f 0 (bl v1)) g μ) σ1) hC 0 rfl (by decide) (by decide) 22 3 rfl rfl dL_copy_16 (wo_set ..) ?_
    refine gGoto (pc := 17) hC (tgt := 24) dL_copy_17 (by decide) ?_
    refine gIconst (pc := 24) hC (v := (nI 0)) dL_copy_24 (by decide +kernel) ?_
    exact gRetIX hC hQ hr (Nat.le_of_ble_eq_true rfl) (Nat.le_of_ble_eq_true rfl) dL_copy_25 (⟨by rw [hK], σ1, _, rfl, Or.inl ⟨hK, ⟨_, rfl, hv1⟩, h1⟩⟩)

abbrev rmL_length : Room := { frames := 8, cells := 1, slots := 6, locals := 124 }
set_option maxRecDepth 100000 in
set_option maxHeartbeats 4000000 in
theorem c_L_length (l : Launch) (D : va_G) (q : wLay) (σ : cSt) (μ : mSt) (f : Nat → Int64) (g : Nat → UInt64) (Δ : dSt) (x : Int32) (hR : cRel σ Δ) : gX l yL_length wsL_length rmL_length D (wTy q) (WC (LC q f g μ) σ) [.ref (wx q), .int x, .ref (wo q)] 1 6 (wPost q g μ Δ (Δ) (kk1 (okR x)) (fun t : Int64 => ∃ v : Int32, t = v.toInt64 ∧ (fun b => b = nI (Δ.2.1 (rI x))) v)) (fun _ _ => False) := by
  refine gX.ofH (cc := cL_length) (maxL := 4) (ret := (some .int)) (own := RL) (by decide) rfl rfl (Nat.le_of_ble_eq_true rfl) rfl ?_
  intro p e s m args below meth c A Q hC hr hQ hT hl9
  refine gAloadN (pc := 0) hC dL_length_0 rfl 2 rfl ?_
  refine gIconst (pc := 1) hC (v := (nI 0)) dL_length_1 (by decide +kernel) ?_
  refine gAloadN (pc := 2) hC dL_length_2 rfl 0 rfl ?_
  refine gIloadN (pc := 3) hC dL_length_3 rfl 1 rfl ?_
  refine gVH (pc := 4) (rest := [.int (nI 0), .ref (wo q)]) (ci := 1) (q0 := 0) hC hl9 (c_X1_length l D (LC q f g μ) σ Δ x hR) rfl rfl (cwV 1 hC.2.2.2.2.1 gL_length_X1_length rfl rfl rfl (by decide +kernel) ⟨Nat.le_of_ble_eq_true rfl, Nat.le_of_ble_eq_true rfl⟩) rfl rfl (Nat.le_of_ble_eq_true rfl) dL_length_4 ⟨Nat.le_of_ble_eq_true rfl, Nat.le_of_ble_eq_true rfl⟩ (fun E w1 hx => ?_) (fun v w1 hp => ?_)
  · skip
    obtain ⟨σ1, rfl, h1, hE⟩ := hx
    obtain ⟨rfl, hK⟩ := hE
    refine gHdN (pc := 4) hC [] (0, 9, 12, 13) [] hT rfl (fun z hz => absurd hz List.not_mem_nil) (by decide +kernel) (by decide) (by decide +kernel) (by decide +kernel) (fun a => ?_)
    refine gStk (st' := [.ref a]) (pc' := 12) rfl rfl ?_
    refine gAstoreN (pc := 12) hC (lv' := [(3, .ref a), (0, .ref (wx q)), (1, .int x), (2, .ref (wo q))]) dL_length_12 rfl (by decide) rfl ?_
    refine gIconst (pc := 13) hC (v := (nI 1)) dL_length_13 (by decide +kernel) ?_
    exact gRetIX hC hQ hr (Nat.le_of_ble_eq_true rfl) (Nat.le_of_ble_eq_true rfl) dL_length_14 (⟨by rw [hK], σ1, f, rfl, Or.inr ⟨by rw [hK]; decide, h1⟩⟩)
  · skip
    obtain ⟨hK, rfl, σ1, rfl, h1⟩ := hp
    obtain ⟨v0, hv0⟩ : ∃ v0, v0 = (nI (Δ.2.1 (rI x))) := ⟨_, rfl⟩
    refine gStk (st' := [.int (nI (Δ.2.1 (rI x))), .int (nI 0), .ref (wo q)]) (pc' := 7) rfl rfl ?_
    rw [← hv0]
    refine gI2l (pc := 7) hC dL_length_7 rfl ?_
    refine gLast (pc := 8) (ws' := WC (LC q (vp_updL f 0 v0.toInt64) g μ) σ1) hC 0 rfl (by decide) (by decide) 22 3 rfl rfl dL_length_8 (wo_set ..) ?_
    refine gGoto (pc := 9) hC (tgt := 15) dL_length_9 (by decide) ?_
    refine gIconst (pc := 15) hC (v := (nI 0)) dL_length_15 (by decide +kernel) ?_
    exact gRetIX hC hQ hr (Nat.le_of_ble_eq_true rfl) (Nat.le_of_ble_eq_true rfl) dL_length_16 (⟨by rw [hK], σ1, _, rfl, Or.inl ⟨hK, ⟨_, rfl, hv0⟩, h1⟩⟩)

abbrev rmL_number : Room := { frames := 8, cells := 2, slots := 12, locals := 126 }
set_option maxRecDepth 100000 in
set_option maxHeartbeats 4000000 in
theorem c_L_number (l : Launch) (D : va_G) (q : wLay) (σ : cSt) (μ : mSt) (f : Nat → Int64) (g : Nat → UInt64) (Δ : dSt) (x : Int32) (y : Int32) (hR : cRel σ Δ) : gX l yL_number wsL_number rmL_number D (wTy q) (WC (LC q f g μ) σ) [.ref (wx q), .int x, .int y, .ref (wo q)] 2 12 (wPost q g μ Δ (Δ) (kk1 (okR x ∧ okP y (Δ.2.1 (rI x)))) (fun t : Int64 => ∃ v : Int32, t = v.toInt64 ∧ (fun b => b = nI ((Δ.2.2 (rI x)) (rI y)).val) v)) (fun _ _ => False) := by
  refine gX.ofH (cc := cL_number) (maxL := 5) (ret := (some .int)) (own := RL) (by decide) rfl rfl (Nat.le_of_ble_eq_true rfl) rfl ?_
  intro p e s m args below meth c A Q hC hr hQ hT hl9
  refine gAloadN (pc := 0) hC dL_number_0 rfl 3 rfl ?_
  refine gIconst (pc := 1) hC (v := (nI 0)) dL_number_1 (by decide +kernel) ?_
  refine gAloadN (pc := 2) hC dL_number_2 rfl 0 rfl ?_
  refine gIloadN (pc := 3) hC dL_number_3 rfl 1 rfl ?_
  refine gIloadN (pc := 4) hC dL_number_4 rfl 2 rfl ?_
  refine gVH (pc := 5) (rest := [.int (nI 0), .ref (wo q)]) (ci := 1) (q0 := 0) hC hl9 (c_X1_number l D (LC q f g μ) σ Δ x y hR) rfl rfl (cwV 2 hC.2.2.2.2.1 gL_number_X1_number rfl rfl rfl (by decide +kernel) ⟨Nat.le_of_ble_eq_true rfl, Nat.le_of_ble_eq_true rfl⟩) rfl rfl (Nat.le_of_ble_eq_true rfl) dL_number_5 ⟨Nat.le_of_ble_eq_true rfl, Nat.le_of_ble_eq_true rfl⟩ (fun E w1 hx => ?_) (fun v w1 hp => ?_)
  · skip
    obtain ⟨σ1, rfl, h1, hE⟩ := hx
    obtain ⟨rfl, hK⟩ := hE
    refine gHdN (pc := 5) hC [] (0, 10, 13, 13) [] hT rfl (fun z hz => absurd hz List.not_mem_nil) (by decide +kernel) (by decide) (by decide +kernel) (by decide +kernel) (fun a => ?_)
    refine gStk (st' := [.ref a]) (pc' := 13) rfl rfl ?_
    refine gAstore (pc := 13) hC (lv' := [(4, .ref a), (0, .ref (wx q)), (1, .int x), (2, .int y), (3, .ref (wo q))]) dL_number_13 (by decide) rfl ?_
    refine gIconst (pc := 15) hC (v := (nI 1)) dL_number_15 (by decide +kernel) ?_
    exact gRetIX hC hQ hr (Nat.le_of_ble_eq_true rfl) (Nat.le_of_ble_eq_true rfl) dL_number_16 (⟨by rw [hK], σ1, f, rfl, Or.inr ⟨by rw [hK]; decide, h1⟩⟩)
  · skip
    obtain ⟨hK, rfl, σ1, rfl, h1⟩ := hp
    obtain ⟨v0, hv0⟩ : ∃ v0, v0 = (nI ((Δ.2.2 (rI x)) (rI y)).val) := ⟨_, rfl⟩
    refine gStk (st' := [.int (nI ((Δ.2.2 (rI x)) (rI y)).val), .int (nI 0), .ref (wo q)]) (pc' := 8) rfl rfl ?_
    rw [← hv0]
    refine gI2l (pc := 8) hC dL_number_8 rfl ?_
    refine gLast (pc := 9) (ws' := WC (LC q (vp_updL f 0 v0.toInt64) g μ) σ1) hC 0 rfl (by decide) (by decide) 22 3 rfl rfl dL_number_9 (wo_set ..) ?_
    refine gGoto (pc := 10) hC (tgt := 17) dL_number_10 (by decide) ?_
    refine gIconst (pc := 17) hC (v := (nI 0)) dL_number_17 (by decide +kernel) ?_
    exact gRetIX hC hQ hr (Nat.le_of_ble_eq_true rfl) (Nat.le_of_ble_eq_true rfl) dL_number_18 (⟨by rw [hK], σ1, _, rfl, Or.inl ⟨hK, ⟨_, rfl, hv0⟩, h1⟩⟩)

abbrev rmL_useOdd : Room := { frames := 7, cells := 1, slots := 6, locals := 104 }
set_option maxRecDepth 100000 in
set_option maxHeartbeats 4000000 in
theorem c_L_useOdd (l : Launch) (D : va_G) (q : wLay) (σ : cSt) (μ : mSt) (f : Nat → Int64) (g : Nat → UInt64) (Δ : dSt) (x : Int32) (hR : cRel σ Δ) : gX l yL_useOdd wsL_useOdd rmL_useOdd D (wTy q) (WC (LC q f g μ) σ) [.ref (wx q), .int x, .ref (wo q)] 1 6 (wPost q g μ Δ (rI x, Δ.2) (kk1 (¬ x < nI 1 ∧ ¬ nI 31 < x ∧ ¬ x &&& nI 1 = 0)) (fun t : Int64 => ∃ v : Int32, t = v.toInt64 ∧ (fun b => b = nI Δ.1) v)) (fun _ _ => False) := by
  refine gX.ofH (cc := cL_useOdd) (maxL := 4) (ret := (some .int)) (own := RL) (by decide) rfl rfl (Nat.le_of_ble_eq_true rfl) rfl ?_
  intro p e s m args below meth c A Q hC hr hQ hT hl9
  refine gAloadN (pc := 0) hC dL_useOdd_0 rfl 2 rfl ?_
  refine gIconst (pc := 1) hC (v := (nI 0)) dL_useOdd_1 (by decide +kernel) ?_
  refine gAloadN (pc := 2) hC dL_useOdd_2 rfl 0 rfl ?_
  refine gIloadN (pc := 3) hC dL_useOdd_3 rfl 1 rfl ?_
  refine gVH (pc := 4) (rest := [.int (nI 0), .ref (wo q)]) (ci := 1) (q0 := 0) hC hl9 (c_X1_useOdd l D (LC q f g μ) σ Δ x hR) rfl rfl (cwV 1 hC.2.2.2.2.1 gL_useOdd_X1_useOdd rfl rfl rfl (by decide +kernel) ⟨Nat.le_of_ble_eq_true rfl, Nat.le_of_ble_eq_true rfl⟩) rfl rfl (Nat.le_of_ble_eq_true rfl) dL_useOdd_4 ⟨Nat.le_of_ble_eq_true rfl, Nat.le_of_ble_eq_true rfl⟩ (fun E w1 hx => ?_) (fun v w1 hp => ?_)
  · skip
    obtain ⟨σ1, rfl, h1, hE⟩ := hx
    obtain ⟨rfl, hK⟩ := hE
    refine gHdN (pc := 4) hC [] (0, 9, 12, 15) [] hT rfl (fun z hz => absurd hz List.not_mem_nil) (by decide +kernel) (by decide) (by decide +kernel) (by decide +kernel) (fun a => ?_)
    refine gStk (st' := [.ref a]) (pc' := 12) rfl rfl ?_
    refine gAstoreN (pc := 12) hC (lv' := [(3, .ref a), (0, .ref (wx q)), (1, .int x), (2, .ref (wo q))]) dL_useOdd_12 rfl (by decide) rfl ?_
    refine gIconst (pc := 13) hC (v := (nI 1)) dL_useOdd_13 (by decide +kernel) ?_
    exact gRetIX hC hQ hr (Nat.le_of_ble_eq_true rfl) (Nat.le_of_ble_eq_true rfl) dL_useOdd_14 (⟨by rw [hK], σ1, f, rfl, Or.inr ⟨by rw [hK]; decide, h1⟩⟩)
  · skip
    obtain ⟨hK, rfl, σ1, rfl, h1⟩ := hp
    obtain ⟨v0, hv0⟩ : ∃ v0, v0 = (nI Δ.1) := ⟨_, rfl⟩
    refine gStk (st' := [.int (nI Δ.1), .int (nI 0), .ref (wo q)]) (pc' := 7) rfl rfl ?_
    rw [← hv0]
    refine gI2l (pc := 7) hC dL_useOdd_7 rfl ?_
    refine gLast (pc := 8) (ws' := WC (LC q (vp_updL f 0 v0.toInt64) g μ) σ1) hC 0 rfl (by decide) (by decide) 22 3 rfl rfl dL_useOdd_8 (wo_set ..) ?_
    refine gGoto (pc := 9) hC (tgt := 15) dL_useOdd_9 (by decide) ?_
    refine gIconst (pc := 15) hC (v := (nI 0)) dL_useOdd_15 (by decide +kernel) ?_
    exact gRetIX hC hQ hr (Nat.le_of_ble_eq_true rfl) (Nat.le_of_ble_eq_true rfl) dL_useOdd_16 (⟨by rw [hK], σ1, _, rfl, Or.inl ⟨hK, ⟨_, rfl, hv0⟩, h1⟩⟩)

abbrev rmL_root : Room := { frames := 8, cells := 1, slots := 6, locals := 123 }
set_option maxRecDepth 100000 in
set_option maxHeartbeats 4000000 in
theorem c_L_root (l : Launch) (D : va_G) (q : wLay) (σ : cSt) (μ : mSt) (f : Nat → Int64) (g : Nat → UInt64) (Δ : dSt) (x : Int32) (hR : cRel σ Δ) : gX l yL_root wsL_root rmL_root D (wTy q) (WC (LC q f g μ) σ) [.ref (wx q), .int x, .ref (wo q)] 1 6 (wPost q g μ Δ (Δ) (kk1 (okLI x)) (fun t : Int64 => ∃ v : Int32, t = v.toInt64 ∧ (fun b => b = nI (pz (un Δ.1 (rI x) * 1)).val) v)) (fun _ _ => False) := by
  refine gX.ofH (cc := cL_root) (maxL := 4) (ret := (some .int)) (own := RL) (by decide) rfl rfl (Nat.le_of_ble_eq_true rfl) rfl ?_
  intro p e s m args below meth c A Q hC hr hQ hT hl9
  refine gAloadN (pc := 0) hC dL_root_0 rfl 2 rfl ?_
  refine gIconst (pc := 1) hC (v := (nI 0)) dL_root_1 (by decide +kernel) ?_
  refine gAloadN (pc := 2) hC dL_root_2 rfl 0 rfl ?_
  refine gIloadN (pc := 3) hC dL_root_3 rfl 1 rfl ?_
  refine gVH (pc := 4) (rest := [.int (nI 0), .ref (wo q)]) (ci := 1) (q0 := 0) hC hl9 (c_X1_root l D (LC q f g μ) σ Δ x hR) rfl rfl (cwV 1 hC.2.2.2.2.1 gL_root_X1_root rfl rfl rfl (by decide +kernel) ⟨Nat.le_of_ble_eq_true rfl, Nat.le_of_ble_eq_true rfl⟩) rfl rfl (Nat.le_of_ble_eq_true rfl) dL_root_4 ⟨Nat.le_of_ble_eq_true rfl, Nat.le_of_ble_eq_true rfl⟩ (fun E w1 hx => ?_) (fun v w1 hp => ?_)
  · skip
    obtain ⟨σ1, rfl, h1, hE⟩ := hx
    obtain ⟨rfl, hK⟩ := hE
    refine gHdN (pc := 4) hC [] (0, 9, 12, 15) [] hT rfl (fun z hz => absurd hz List.not_mem_nil) (by decide +kernel) (by decide) (by decide +kernel) (by decide +kernel) (fun a => ?_)
    refine gStk (st' := [.ref a]) (pc' := 12) rfl rfl ?_
    refine gAstoreN (pc := 12) hC (lv' := [(3, .ref a), (0, .ref (wx q)), (1, .int x), (2, .ref (wo q))]) dL_root_12 rfl (by decide) rfl ?_
    refine gIconst (pc := 13) hC (v := (nI 1)) dL_root_13 (by decide +kernel) ?_
    exact gRetIX hC hQ hr (Nat.le_of_ble_eq_true rfl) (Nat.le_of_ble_eq_true rfl) dL_root_14 (⟨by rw [hK], σ1, f, rfl, Or.inr ⟨by rw [hK]; decide, h1⟩⟩)
  · skip
    obtain ⟨hK, rfl, σ1, rfl, h1⟩ := hp
    obtain ⟨v0, hv0⟩ : ∃ v0, v0 = (nI (pz (un Δ.1 (rI x) * 1)).val) := ⟨_, rfl⟩
    refine gStk (st' := [.int (nI (pz (un Δ.1 (rI x) * 1)).val), .int (nI 0), .ref (wo q)]) (pc' := 7) rfl rfl ?_
    rw [← hv0]
    refine gI2l (pc := 7) hC dL_root_7 rfl ?_
    refine gLast (pc := 8) (ws' := WC (LC q (vp_updL f 0 v0.toInt64) g μ) σ1) hC 0 rfl (by decide) (by decide) 22 3 rfl rfl dL_root_8 (wo_set ..) ?_
    refine gGoto (pc := 9) hC (tgt := 15) dL_root_9 (by decide) ?_
    refine gIconst (pc := 15) hC (v := (nI 0)) dL_root_15 (by decide +kernel) ?_
    exact gRetIX hC hQ hr (Nat.le_of_ble_eq_true rfl) (Nat.le_of_ble_eq_true rfl) dL_root_16 (⟨by rw [hK], σ1, _, rfl, Or.inl ⟨hK, ⟨_, rfl, hv0⟩, h1⟩⟩)

abbrev rmL_power : Room := { frames := 8, cells := 1, slots := 6, locals := 124 }
set_option maxRecDepth 100000 in
set_option maxHeartbeats 4000000 in
theorem c_L_power (l : Launch) (D : va_G) (q : wLay) (σ : cSt) (μ : mSt) (f : Nat → Int64) (g : Nat → UInt64) (Δ : dSt) (x : Int32) (y : Int32) (hR : cRel σ Δ) : gX l yL_power wsL_power rmL_power D (wTy q) (WC (LC q f g μ) σ) [.ref (wx q), .int x, .int y, .ref (wo q)] 1 6 (wPost q g μ Δ (Δ) (kk1 (okLI x)) (fun t : Int64 => ∃ v : Int32, t = v.toInt64 ∧ (fun b => b = nI (pz (un Δ.1 (rI x) * y.toInt)).val) v)) (fun _ _ => False) := by
  refine gX.ofH (cc := cL_power) (maxL := 5) (ret := (some .int)) (own := RL) (by decide) rfl rfl (Nat.le_of_ble_eq_true rfl) rfl ?_
  intro p e s m args below meth c A Q hC hr hQ hT hl9
  refine gAloadN (pc := 0) hC dL_power_0 rfl 3 rfl ?_
  refine gIconst (pc := 1) hC (v := (nI 0)) dL_power_1 (by decide +kernel) ?_
  refine gAloadN (pc := 2) hC dL_power_2 rfl 0 rfl ?_
  refine gIloadN (pc := 3) hC dL_power_3 rfl 1 rfl ?_
  refine gIloadN (pc := 4) hC dL_power_4 rfl 2 rfl ?_
  refine gVH (pc := 5) (rest := [.int (nI 0), .ref (wo q)]) (ci := 1) (q0 := 0) hC hl9 (c_X1_power l D (LC q f g μ) σ Δ x y hR) rfl rfl (cwV 2 hC.2.2.2.2.1 gL_power_X1_power rfl rfl rfl (by decide +kernel) ⟨Nat.le_of_ble_eq_true rfl, Nat.le_of_ble_eq_true rfl⟩) rfl rfl (Nat.le_of_ble_eq_true rfl) dL_power_5 ⟨Nat.le_of_ble_eq_true rfl, Nat.le_of_ble_eq_true rfl⟩ (fun E w1 hx => ?_) (fun v w1 hp => ?_)
  · skip
    obtain ⟨σ1, rfl, h1, hE⟩ := hx
    obtain ⟨rfl, hK⟩ := hE
    refine gHdN (pc := 5) hC [] (0, 10, 13, 15) [] hT rfl (fun z hz => absurd hz List.not_mem_nil) (by decide +kernel) (by decide) (by decide +kernel) (by decide +kernel) (fun a => ?_)
    refine gStk (st' := [.ref a]) (pc' := 13) rfl rfl ?_
    refine gAstore (pc := 13) hC (lv' := [(4, .ref a), (0, .ref (wx q)), (1, .int x), (2, .int y), (3, .ref (wo q))]) dL_power_13 (by decide) rfl ?_
    refine gIconst (pc := 15) hC (v := (nI 1)) dL_power_15 (by decide +kernel) ?_
    exact gRetIX hC hQ hr (Nat.le_of_ble_eq_true rfl) (Nat.le_of_ble_eq_true rfl) dL_power_16 (⟨by rw [hK], σ1, f, rfl, Or.inr ⟨by rw [hK]; decide, h1⟩⟩)
  · skip
    obtain ⟨hK, rfl, σ1, rfl, h1⟩ := hp
    obtain ⟨v0, hv0⟩ : ∃ v0, v0 = (nI (pz (un Δ.1 (rI x) * y.toInt)).val) := ⟨_, rfl⟩
    refine gStk (st' := [.int (nI (pz (un Δ.1 (rI x) * y.toInt)).val), .int (nI 0), .ref (wo q)]) (pc' := 8) rfl rfl ?_
    rw [← hv0]
    refine gI2l (pc := 8) hC dL_power_8 rfl ?_
    refine gLast (pc := 9) (ws' := WC (LC q (vp_updL f 0 v0.toInt64) g μ) σ1) hC 0 rfl (by decide) (by decide) 22 3 rfl rfl dL_power_9 (wo_set ..) ?_
    refine gGoto (pc := 10) hC (tgt := 17) dL_power_10 (by decide) ?_
    refine gIconst (pc := 17) hC (v := (nI 0)) dL_power_17 (by decide +kernel) ?_
    exact gRetIX hC hQ hr (Nat.le_of_ble_eq_true rfl) (Nat.le_of_ble_eq_true rfl) dL_power_18 (⟨by rw [hK], σ1, _, rfl, Or.inl ⟨hK, ⟨_, rfl, hv0⟩, h1⟩⟩)

abbrev rmL_values : Room := { frames := 8, cells := 1, slots := 6, locals := 128 }
set_option maxRecDepth 100000 in
set_option maxHeartbeats 4000000 in
theorem c_L_values (l : Launch) (D : va_G) (q : wLay) (σ : cSt) (μ : mSt) (f : Nat → Int64) (g : Nat → UInt64) (Δ : dSt) (x : Int32) (y : Int32) (hR : cRel σ Δ) : gX l yL_values wsL_values rmL_values D (wTy q) (WC (LC q f g μ) σ) [.ref (wx q), .int x, .int y, .ref (wo q)] 1 6 (wPost q g μ Δ (dRow Δ (rI x) (Δ.2.1 (rI x)) (ps (Δ.2.1 (rI x)) (un Δ.1 (Δ.2.1 (rI x))) 1 (Δ.2.2 (rI x)))) (kk1 (okR x)) (fun t : Int64 => ∃ v : Int32, t = v.toInt64 ∧ (fun b => b = nI (cz (ps (Δ.2.1 (rI x)) (un Δ.1 (Δ.2.1 (rI x))) 1 (Δ.2.2 (rI x))) (Δ.2.1 (rI x)))) v)) (fun _ _ => False) := by
  refine gX.ofH (cc := cL_values) (maxL := 5) (ret := (some .int)) (own := RL) (by decide) rfl rfl (Nat.le_of_ble_eq_true rfl) rfl ?_
  intro p e s m args below meth c A Q hC hr hQ hT hl9
  refine gAloadN (pc := 0) hC dL_values_0 rfl 3 rfl ?_
  refine gIconst (pc := 1) hC (v := (nI 0)) dL_values_1 (by decide +kernel) ?_
  refine gAloadN (pc := 2) hC dL_values_2 rfl 0 rfl ?_
  refine gIloadN (pc := 3) hC dL_values_3 rfl 1 rfl ?_
  refine gIloadN (pc := 4) hC dL_values_4 rfl 2 rfl ?_
  refine gVH (pc := 5) (rest := [.int (nI 0), .ref (wo q)]) (ci := 1) (q0 := 0) hC hl9 (c_X1_values l D (LC q f g μ) σ Δ x y hR) rfl rfl (cwV 2 hC.2.2.2.2.1 gL_values_X1_values rfl rfl rfl (by decide +kernel) ⟨Nat.le_of_ble_eq_true rfl, Nat.le_of_ble_eq_true rfl⟩) rfl rfl (Nat.le_of_ble_eq_true rfl) dL_values_5 ⟨Nat.le_of_ble_eq_true rfl, Nat.le_of_ble_eq_true rfl⟩ (fun E w1 hx => ?_) (fun v w1 hp => ?_)
  · skip
    obtain ⟨σ1, rfl, h1, hE⟩ := hx
    obtain ⟨rfl, hK⟩ := hE
    refine gHdN (pc := 5) hC [] (0, 10, 13, 13) [] hT rfl (fun z hz => absurd hz List.not_mem_nil) (by decide +kernel) (by decide) (by decide +kernel) (by decide +kernel) (fun a => ?_)
    refine gStk (st' := [.ref a]) (pc' := 13) rfl rfl ?_
    refine gAstore (pc := 13) hC (lv' := [(4, .ref a), (0, .ref (wx q)), (1, .int x), (2, .int y), (3, .ref (wo q))]) dL_values_13 (by decide) rfl ?_
    refine gIconst (pc := 15) hC (v := (nI 1)) dL_values_15 (by decide +kernel) ?_
    exact gRetIX hC hQ hr (Nat.le_of_ble_eq_true rfl) (Nat.le_of_ble_eq_true rfl) dL_values_16 (⟨by rw [hK], σ1, f, rfl, Or.inr ⟨by rw [hK]; decide, h1⟩⟩)
  · skip
    obtain ⟨hK, rfl, σ1, rfl, h1⟩ := hp
    obtain ⟨v0, hv0⟩ : ∃ v0, v0 = (nI (cz (ps (Δ.2.1 (rI x)) (un Δ.1 (Δ.2.1 (rI x))) 1 (Δ.2.2 (rI x))) (Δ.2.1 (rI x)))) := ⟨_, rfl⟩
    refine gStk (st' := [.int (nI (cz (ps (Δ.2.1 (rI x)) (un Δ.1 (Δ.2.1 (rI x))) 1 (Δ.2.2 (rI x))) (Δ.2.1 (rI x)))), .int (nI 0), .ref (wo q)]) (pc' := 8) rfl rfl ?_
    rw [← hv0]
    refine gI2l (pc := 8) hC dL_values_8 rfl ?_
    refine gLast (pc := 9) (ws' := WC (LC q (vp_updL f 0 v0.toInt64) g μ) σ1) hC 0 rfl (by decide) (by decide) 22 3 rfl rfl dL_values_9 (wo_set ..) ?_
    refine gGoto (pc := 10) hC (tgt := 17) dL_values_10 (by decide) ?_
    refine gIconst (pc := 17) hC (v := (nI 0)) dL_values_17 (by decide +kernel) ?_
    exact gRetIX hC hQ hr (Nat.le_of_ble_eq_true rfl) (Nat.le_of_ble_eq_true rfl) dL_values_18 (⟨by rw [hK], σ1, _, rfl, Or.inl ⟨hK, ⟨_, rfl, hv0⟩, h1⟩⟩)

abbrev rmL_back : Room := { frames := 8, cells := 1, slots := 6, locals := 125 }
set_option maxRecDepth 100000 in
set_option maxHeartbeats 4000000 in
theorem c_L_back (l : Launch) (D : va_G) (q : wLay) (σ : cSt) (μ : mSt) (f : Nat → Int64) (g : Nat → UInt64) (Δ : dSt) (x : Int32) (hR : cRel σ Δ) : gX l yL_back wsL_back rmL_back D (wTy q) (WC (LC q f g μ) σ) [.ref (wx q), .int x, .ref (wo q)] 1 6 (wPost q g μ Δ (dRow Δ (rI x) (Δ.2.1 (rI x)) (bk (Δ.2.1 (rI x)) (un Δ.1 (Δ.2.1 (rI x))) (Δ.2.2 (rI x)))) (kk1 (okR x)) (fun t : Int64 => ∃ v : Int32, t = v.toInt64 ∧ (fun b => b = nI (cz (bk (Δ.2.1 (rI x)) (un Δ.1 (Δ.2.1 (rI x))) (Δ.2.2 (rI x))) (Δ.2.1 (rI x)))) v)) (fun _ _ => False) := by
  refine gX.ofH (cc := cL_back) (maxL := 4) (ret := (some .int)) (own := RL) (by decide) rfl rfl (Nat.le_of_ble_eq_true rfl) rfl ?_
  intro p e s m args below meth c A Q hC hr hQ hT hl9
  refine gAloadN (pc := 0) hC dL_back_0 rfl 2 rfl ?_
  refine gIconst (pc := 1) hC (v := (nI 0)) dL_back_1 (by decide +kernel) ?_
  refine gAloadN (pc := 2) hC dL_back_2 rfl 0 rfl ?_
  refine gIloadN (pc := 3) hC dL_back_3 rfl 1 rfl ?_
  refine gVH (pc := 4) (rest := [.int (nI 0), .ref (wo q)]) (ci := 1) (q0 := 0) hC hl9 (c_X1_back l D (LC q f g μ) σ Δ x hR) rfl rfl (cwV 1 hC.2.2.2.2.1 gL_back_X1_back rfl rfl rfl (by decide +kernel) ⟨Nat.le_of_ble_eq_true rfl, Nat.le_of_ble_eq_true rfl⟩) rfl rfl (Nat.le_of_ble_eq_true rfl) dL_back_4 ⟨Nat.le_of_ble_eq_true rfl, Nat.le_of_ble_eq_true rfl⟩ (fun E w1 hx => ?_) (fun v w1 hp => ?_)
  · skip
    obtain ⟨σ1, rfl, h1, hE⟩ := hx
    obtain ⟨rfl, hK⟩ := hE
    refine gHdN (pc := 4) hC [] (0, 9, 12, 13) [] hT rfl (fun z hz => absurd hz List.not_mem_nil) (by decide +kernel) (by decide) (by decide +kernel) (by decide +kernel) (fun a => ?_)
    refine gStk (st' := [.ref a]) (pc' := 12) rfl rfl ?_
    refine gAstoreN (pc := 12) hC (lv' := [(3, .ref a), (0, .ref (wx q)), (1, .int x), (2, .ref (wo q))]) dL_back_12 rfl (by decide) rfl ?_
    refine gIconst (pc := 13) hC (v := (nI 1)) dL_back_13 (by decide +kernel) ?_
    exact gRetIX hC hQ hr (Nat.le_of_ble_eq_true rfl) (Nat.le_of_ble_eq_true rfl) dL_back_14 (⟨by rw [hK], σ1, f, rfl, Or.inr ⟨by rw [hK]; decide, h1⟩⟩)
  · skip
    obtain ⟨hK, rfl, σ1, rfl, h1⟩ := hp
    obtain ⟨v0, hv0⟩ : ∃ v0, v0 = (nI (cz (bk (Δ.2.1 (rI x)) (un Δ.1 (Δ.2.1 (rI x))) (Δ.2.2 (rI x))) (Δ.2.1 (rI x)))) := ⟨_, rfl⟩
    refine gStk (st' := [.int (nI (cz (bk (Δ.2.1 (rI x)) (un Δ.1 (Δ.2.1 (rI x))) (Δ.2.2 (rI x))) (Δ.2.1 (rI x)))), .int (nI 0), .ref (wo q)]) (pc' := 7) rfl rfl ?_
    rw [← hv0]
    refine gI2l (pc := 7) hC dL_back_7 rfl ?_
    refine gLast (pc := 8) (ws' := WC (LC q (vp_updL f 0 v0.toInt64) g μ) σ1) hC 0 rfl (by decide) (by decide) 22 3 rfl rfl dL_back_8 (wo_set ..) ?_
    refine gGoto (pc := 9) hC (tgt := 15) dL_back_9 (by decide) ?_
    refine gIconst (pc := 15) hC (v := (nI 0)) dL_back_15 (by decide +kernel) ?_
    exact gRetIX hC hQ hr (Nat.le_of_ble_eq_true rfl) (Nat.le_of_ble_eq_true rfl) dL_back_16 (⟨by rw [hK], σ1, _, rfl, Or.inl ⟨hK, ⟨_, rfl, hv0⟩, h1⟩⟩)

abbrev rmL_valueAt : Room := { frames := 8, cells := 2, slots := 12, locals := 128 }
set_option maxRecDepth 100000 in
set_option maxHeartbeats 4000000 in
theorem c_L_valueAt (l : Launch) (D : va_G) (q : wLay) (σ : cSt) (μ : mSt) (f : Nat → Int64) (g : Nat → UInt64) (Δ : dSt) (x : Int32) (y : Int32) (hR : cRel σ Δ) : gX l yL_valueAt wsL_valueAt rmL_valueAt D (wTy q) (WC (LC q f g μ) σ) [.ref (wx q), .int x, .int y, .ref (wo q)] 2 12 (wPost q g μ Δ (Δ) (kk2 (okR x) (okNum y)) (fun t : Int64 => ∃ v : Int32, t = v.toInt64 ∧ (fun b => b = nI (hrn (Δ.2.2 (rI x)) (nu y) (Δ.2.1 (rI x)) 0).val) v)) (fun _ _ => False) := by
  refine gX.ofH (cc := cL_valueAt) (maxL := 5) (ret := (some .int)) (own := RL) (by decide) rfl rfl (Nat.le_of_ble_eq_true rfl) rfl ?_
  intro p e s m args below meth c A Q hC hr hQ hT hl9
  refine gAloadN (pc := 0) hC dL_valueAt_0 rfl 3 rfl ?_
  refine gIconst (pc := 1) hC (v := (nI 0)) dL_valueAt_1 (by decide +kernel) ?_
  refine gAloadN (pc := 2) hC dL_valueAt_2 rfl 0 rfl ?_
  refine gIloadN (pc := 3) hC dL_valueAt_3 rfl 1 rfl ?_
  refine gIloadN (pc := 4) hC dL_valueAt_4 rfl 2 rfl ?_
  refine gVH (pc := 5) (rest := [.int (nI 0), .ref (wo q)]) (ci := 1) (q0 := 0) hC hl9 (c_X1_valueAt l D (LC q f g μ) σ Δ x y hR) rfl rfl (cwV 2 hC.2.2.2.2.1 gL_valueAt_X1_valueAt rfl rfl rfl (by decide +kernel) ⟨Nat.le_of_ble_eq_true rfl, Nat.le_of_ble_eq_true rfl⟩) rfl rfl (Nat.le_of_ble_eq_true rfl) dL_valueAt_5 ⟨Nat.le_of_ble_eq_true rfl, Nat.le_of_ble_eq_true rfl⟩ (fun E w1 hx => ?_) (fun v w1 hp => ?_)
  · skip
    obtain ⟨σ1, rfl, h1, hE⟩ := hx
    rcases hE with ⟨rfl, hK⟩ | ⟨rfl, hK⟩
    · skip
      refine gHdN (pc := 5) hC [] (0, 10, 13, 13) [(0, 10, 17, 15)] hT rfl (fun z hz => absurd hz List.not_mem_nil) (by decide +kernel) (by decide) (by decide +kernel) (by decide +kernel) (fun a => ?_)
      refine gStk (st' := [.ref a]) (pc' := 13) rfl rfl ?_
      refine gAstore (pc := 13) hC (lv' := [(4, .ref a), (0, .ref (wx q)), (1, .int x), (2, .int y), (3, .ref (wo q))]) dL_valueAt_13 (by decide) rfl ?_
      refine gIconst (pc := 15) hC (v := (nI 1)) dL_valueAt_15 (by decide +kernel) ?_
      exact gRetIX hC hQ hr (Nat.le_of_ble_eq_true rfl) (Nat.le_of_ble_eq_true rfl) dL_valueAt_16 (⟨by rw [hK], σ1, f, rfl, Or.inr ⟨by rw [hK]; decide, h1⟩⟩)
    · skip
      refine gHdN (pc := 5) hC [(0, 10, 13, 13)] (0, 10, 17, 15) [] hT rfl (by intro z hz; simp only [List.mem_cons, List.not_mem_nil, or_false] at hz; subst hz; exact ⟨by decide, "java/lang/IndexOutOfBoundsException", (by decide +kernel), (by decide +kernel)⟩) (by decide +kernel) (by decide) (by decide +kernel) (by decide +kernel) (fun a => ?_)
      refine gStk (st' := [.ref a]) (pc' := 17) rfl rfl ?_
      refine gAstore (pc := 17) hC (lv' := [(4, .ref a), (0, .ref (wx q)), (1, .int x), (2, .int y), (3, .ref (wo q))]) dL_valueAt_17 (by decide) rfl ?_
      refine gIconst (pc := 19) hC (v := (nI 2)) dL_valueAt_19 (by decide +kernel) ?_
      exact gRetIX hC hQ hr (Nat.le_of_ble_eq_true rfl) (Nat.le_of_ble_eq_true rfl) dL_valueAt_20 (⟨by rw [hK], σ1, f, rfl, Or.inr ⟨by rw [hK]; decide, h1⟩⟩)
  · skip
    obtain ⟨hK, rfl, σ1, rfl, h1⟩ := hp
    obtain ⟨v0, hv0⟩ : ∃ v0, v0 = (nI (hrn (Δ.2.2 (rI x)) (nu y) (Δ.2.1 (rI x)) 0).val) := ⟨_, rfl⟩
    refine gStk (st' := [.int (nI (hrn (Δ.2.2 (rI x)) (nu y) (Δ.2.1 (rI x)) 0).val), .int (nI 0), .ref (wo q)]) (pc' := 8) rfl rfl ?_
    rw [← hv0]
    refine gI2l (pc := 8) hC dL_valueAt_8 rfl ?_
    refine gLast (pc := 9) (ws' := WC (LC q (vp_updL f 0 v0.toInt64) g μ) σ1) hC 0 rfl (by decide) (by decide) 22 3 rfl rfl dL_valueAt_9 (wo_set ..) ?_
    refine gGoto (pc := 10) hC (tgt := 21) dL_valueAt_10 (by decide) ?_
    refine gIconst (pc := 21) hC (v := (nI 0)) dL_valueAt_21 (by decide +kernel) ?_
    exact gRetIX hC hQ hr (Nat.le_of_ble_eq_true rfl) (Nat.le_of_ble_eq_true rfl) dL_valueAt_22 (⟨by rw [hK], σ1, _, rfl, Or.inl ⟨hK, ⟨_, rfl, hv0⟩, h1⟩⟩)

abbrev rmL_support : Room := { frames := 8, cells := 1, slots := 6, locals := 126 }
set_option maxRecDepth 100000 in
set_option maxHeartbeats 4000000 in
theorem c_L_support (l : Launch) (D : va_G) (q : wLay) (σ : cSt) (μ : mSt) (f : Nat → Int64) (g : Nat → UInt64) (Δ : dSt) (x : Int32) (hR : cRel σ Δ) : gX l yL_support wsL_support rmL_support D (wTy q) (WC (LC q f g μ) σ) [.ref (wx q), .int x, .ref (wo q)] 1 6 (wPost q g μ Δ (Δ) (kk1 (okR x)) (fun t : Int64 => ∃ v : Int32, t = v.toInt64 ∧ (fun b => b = nI (spt (ps (Δ.2.1 (rI x)) (un Δ.1 (Δ.2.1 (rI x))) 1 (Δ.2.2 (rI x))) (Δ.2.1 (rI x)))) v)) (fun _ _ => False) := by
  refine gX.ofH (cc := cL_support) (maxL := 4) (ret := (some .int)) (own := RL) (by decide) rfl rfl (Nat.le_of_ble_eq_true rfl) rfl ?_
  intro p e s m args below meth c A Q hC hr hQ hT hl9
  refine gAloadN (pc := 0) hC dL_support_0 rfl 2 rfl ?_
  refine gIconst (pc := 1) hC (v := (nI 0)) dL_support_1 (by decide +kernel) ?_
  refine gAloadN (pc := 2) hC dL_support_2 rfl 0 rfl ?_
  refine gIloadN (pc := 3) hC dL_support_3 rfl 1 rfl ?_
  refine gVH (pc := 4) (rest := [.int (nI 0), .ref (wo q)]) (ci := 1) (q0 := 0) hC hl9 (c_X1_support l D (LC q f g μ) σ Δ x hR) rfl rfl (cwV 1 hC.2.2.2.2.1 gL_support_X1_support rfl rfl rfl (by decide +kernel) ⟨Nat.le_of_ble_eq_true rfl, Nat.le_of_ble_eq_true rfl⟩) rfl rfl (Nat.le_of_ble_eq_true rfl) dL_support_4 ⟨Nat.le_of_ble_eq_true rfl, Nat.le_of_ble_eq_true rfl⟩ (fun E w1 hx => ?_) (fun v w1 hp => ?_)
  · skip
    obtain ⟨σ1, rfl, h1, hE⟩ := hx
    obtain ⟨rfl, hK⟩ := hE
    refine gHdN (pc := 4) hC [] (0, 9, 12, 13) [] hT rfl (fun z hz => absurd hz List.not_mem_nil) (by decide +kernel) (by decide) (by decide +kernel) (by decide +kernel) (fun a => ?_)
    refine gStk (st' := [.ref a]) (pc' := 12) rfl rfl ?_
    refine gAstoreN (pc := 12) hC (lv' := [(3, .ref a), (0, .ref (wx q)), (1, .int x), (2, .ref (wo q))]) dL_support_12 rfl (by decide) rfl ?_
    refine gIconst (pc := 13) hC (v := (nI 1)) dL_support_13 (by decide +kernel) ?_
    exact gRetIX hC hQ hr (Nat.le_of_ble_eq_true rfl) (Nat.le_of_ble_eq_true rfl) dL_support_14 (⟨by rw [hK], σ1, f, rfl, Or.inr ⟨by rw [hK]; decide, h1⟩⟩)
  · skip
    obtain ⟨hK, rfl, σ1, rfl, h1⟩ := hp
    obtain ⟨v0, hv0⟩ : ∃ v0, v0 = (nI (spt (ps (Δ.2.1 (rI x)) (un Δ.1 (Δ.2.1 (rI x))) 1 (Δ.2.2 (rI x))) (Δ.2.1 (rI x)))) := ⟨_, rfl⟩
    refine gStk (st' := [.int (nI (spt (ps (Δ.2.1 (rI x)) (un Δ.1 (Δ.2.1 (rI x))) 1 (Δ.2.2 (rI x))) (Δ.2.1 (rI x)))), .int (nI 0), .ref (wo q)]) (pc' := 7) rfl rfl ?_
    rw [← hv0]
    refine gI2l (pc := 7) hC dL_support_7 rfl ?_
    refine gLast (pc := 8) (ws' := WC (LC q (vp_updL f 0 v0.toInt64) g μ) σ1) hC 0 rfl (by decide) (by decide) 22 3 rfl rfl dL_support_8 (wo_set ..) ?_
    refine gGoto (pc := 9) hC (tgt := 15) dL_support_9 (by decide) ?_
    refine gIconst (pc := 15) hC (v := (nI 0)) dL_support_15 (by decide +kernel) ?_
    exact gRetIX hC hQ hr (Nat.le_of_ble_eq_true rfl) (Nat.le_of_ble_eq_true rfl) dL_support_16 (⟨by rw [hK], σ1, _, rfl, Or.inl ⟨hK, ⟨_, rfl, hv0⟩, h1⟩⟩)

abbrev rmL_times : Room := { frames := 8, cells := 3, slots := 18, locals := 153 }
set_option maxRecDepth 100000 in
set_option maxHeartbeats 4000000 in
theorem c_L_times (l : Launch) (D : va_G) (q : wLay) (σ : cSt) (μ : mSt) (f : Nat → Int64) (g : Nat → UInt64) (Δ : dSt) (x : Int32) (y : Int32) (z : Int32) (hR : cRel σ Δ) : gX l yL_times wsL_times rmL_times D (wTy q) (WC (LC q f g μ) σ) [.ref (wx q), .int x, .int y, .int z, .ref (wo q)] 3 18 (wPost q g μ Δ (dRow Δ (rI x) (Δ.2.1 (rI x)) (rp (Δ.2.1 (rI x)) (Δ.2.2 (rI x)) (Δ.2.2 (rI y)))) (kk2 (okR x ∧ okR y) ((Δ.2.1 (rI x)) = (Δ.2.1 (rI y)))) (fun t : Int64 => ∃ v : Int32, t = v.toInt64 ∧ (fun b => b = nI (cz (rp (Δ.2.1 (rI x)) (Δ.2.2 (rI x)) (Δ.2.2 (rI y))) (Δ.2.1 (rI x)))) v)) (fun _ _ => False) := by
  refine gX.ofH (cc := cL_times) (maxL := 6) (ret := (some .int)) (own := RL) (by decide) rfl rfl (Nat.le_of_ble_eq_true rfl) rfl ?_
  intro p e s m args below meth c A Q hC hr hQ hT hl9
  refine gAload (pc := 0) hC dL_times_0 4 rfl ?_
  refine gIconst (pc := 2) hC (v := (nI 0)) dL_times_2 (by decide +kernel) ?_
  refine gAloadN (pc := 3) hC dL_times_3 rfl 0 rfl ?_
  refine gIloadN (pc := 4) hC dL_times_4 rfl 1 rfl ?_
  refine gIloadN (pc := 5) hC dL_times_5 rfl 2 rfl ?_
  refine gIloadN (pc := 6) hC dL_times_6 rfl 3 rfl ?_
  refine gVH (pc := 7) (rest := [.int (nI 0), .ref (wo q)]) (ci := 1) (q0 := 0) hC hl9 (c_X1_times l D (LC q f g μ) σ Δ x y z hR) rfl rfl (cwV 3 hC.2.2.2.2.1 gL_times_X1_times rfl rfl rfl (by decide +kernel) ⟨Nat.le_of_ble_eq_true rfl, Nat.le_of_ble_eq_true rfl⟩) rfl rfl (Nat.le_of_ble_eq_true rfl) dL_times_7 ⟨Nat.le_of_ble_eq_true rfl, Nat.le_of_ble_eq_true rfl⟩ (fun E w1 hx => ?_) (fun v w1 hp => ?_)
  · skip
    obtain ⟨σ1, rfl, h1, hE⟩ := hx
    rcases hE with ⟨rfl, hK⟩ | ⟨rfl, hK⟩
    · skip
      refine gHdN (pc := 7) hC [] (0, 12, 15, 13) [(0, 12, 19, 61)] hT rfl (fun z hz => absurd hz List.not_mem_nil) (by decide +kernel) (by decide) (by decide +kernel) (by decide +kernel) (fun a => ?_)
      refine gStk (st' := [.ref a]) (pc' := 15) rfl rfl ?_
      refine gAstore (pc := 15) hC (lv' := [(5, .ref a), (0, .ref (wx q)), (1, .int x), (2, .int y), (3, .int z), (4, .ref (wo q))]) dL_times_15 (by decide) rfl ?_
      refine gIconst (pc := 17) hC (v := (nI 1)) dL_times_17 (by decide +kernel) ?_
      exact gRetIX hC hQ hr (Nat.le_of_ble_eq_true rfl) (Nat.le_of_ble_eq_true rfl) dL_times_18 (⟨by rw [hK], σ1, f, rfl, Or.inr ⟨by rw [hK]; decide, h1⟩⟩)
    · skip
      refine gHdN (pc := 7) hC [(0, 12, 15, 13)] (0, 12, 19, 61) [] hT rfl (by intro z hz; simp only [List.mem_cons, List.not_mem_nil, or_false] at hz; subst hz; exact ⟨by decide, "java/lang/IndexOutOfBoundsException", (by decide +kernel), (by decide +kernel)⟩) (by decide +kernel) (by decide) (by decide +kernel) (by decide +kernel) (fun a => ?_)
      refine gStk (st' := [.ref a]) (pc' := 19) rfl rfl ?_
      refine gAstore (pc := 19) hC (lv' := [(5, .ref a), (0, .ref (wx q)), (1, .int x), (2, .int y), (3, .int z), (4, .ref (wo q))]) dL_times_19 (by decide) rfl ?_
      refine gIconst (pc := 21) hC (v := (nI 2)) dL_times_21 (by decide +kernel) ?_
      exact gRetIX hC hQ hr (Nat.le_of_ble_eq_true rfl) (Nat.le_of_ble_eq_true rfl) dL_times_22 (⟨by rw [hK], σ1, f, rfl, Or.inr ⟨by rw [hK]; decide, h1⟩⟩)
  · skip
    obtain ⟨hK, rfl, σ1, rfl, h1⟩ := hp
    obtain ⟨v0, hv0⟩ : ∃ v0, v0 = (nI (cz (rp (Δ.2.1 (rI x)) (Δ.2.2 (rI x)) (Δ.2.2 (rI y))) (Δ.2.1 (rI x)))) := ⟨_, rfl⟩
    refine gStk (st' := [.int (nI (cz (rp (Δ.2.1 (rI x)) (Δ.2.2 (rI x)) (Δ.2.2 (rI y))) (Δ.2.1 (rI x)))), .int (nI 0), .ref (wo q)]) (pc' := 10) rfl rfl ?_
    rw [← hv0]
    refine gI2l (pc := 10) hC dL_times_10 rfl ?_
    refine gLast (pc := 11) (ws' := WC (LC q (vp_updL f 0 v0.toInt64) g μ) σ1) hC 0 rfl (by decide) (by decide) 22 3 rfl rfl dL_times_11 (wo_set ..) ?_
    refine gGoto (pc := 12) hC (tgt := 23) dL_times_12 (by decide) ?_
    refine gIconst (pc := 23) hC (v := (nI 0)) dL_times_23 (by decide +kernel) ?_
    exact gRetIX hC hQ hr (Nat.le_of_ble_eq_true rfl) (Nat.le_of_ble_eq_true rfl) dL_times_24 (⟨by rw [hK], σ1, _, rfl, Or.inl ⟨hK, ⟨_, rfl, hv0⟩, h1⟩⟩)

abbrev rmL_plainTimes : Room := { frames := 8, cells := 4, slots := 24, locals := 127 }
set_option maxRecDepth 100000 in
set_option maxHeartbeats 4000000 in
theorem c_L_plainTimes (l : Launch) (D : va_G) (q : wLay) (σ : cSt) (μ : mSt) (f : Nat → Int64) (g : Nat → UInt64) (Δ : dSt) (x : Int32) (y : Int32) (hR : cRel σ Δ) : gX l yL_plainTimes wsL_plainTimes rmL_plainTimes D (wTy q) (WC (LC q f g μ) σ) [.ref (wx q), .int x, .int y, .ref (wo q)] 4 24 (wPost q g μ Δ (dRow Δ (rI x) (2 * (Δ.2.1 (rI x))) (pp (Δ.2.1 (rI x)) (Δ.2.2 (rI x)) (Δ.2.2 (rI y)))) (kk2 (okR x ∧ okR y) ((Δ.2.1 (rI x)) = (Δ.2.1 (rI y)) ∧ (Δ.2.1 (rI x)) < 16)) (fun t : Int64 => ∃ v : Int32, t = v.toInt64 ∧ (fun b => b = nI (cz (pp (Δ.2.1 (rI x)) (Δ.2.2 (rI x)) (Δ.2.2 (rI y))) (2 * (Δ.2.1 (rI x))))) v)) (fun _ _ => False) := by
  refine gX.ofH (cc := cL_plainTimes) (maxL := 5) (ret := (some .int)) (own := RL) (by decide) rfl rfl (Nat.le_of_ble_eq_true rfl) rfl ?_
  intro p e s m args below meth c A Q hC hr hQ hT hl9
  refine gAloadN (pc := 0) hC dL_plainTimes_0 rfl 3 rfl ?_
  refine gIconst (pc := 1) hC (v := (nI 0)) dL_plainTimes_1 (by decide +kernel) ?_
  refine gAloadN (pc := 2) hC dL_plainTimes_2 rfl 0 rfl ?_
  refine gIloadN (pc := 3) hC dL_plainTimes_3 rfl 1 rfl ?_
  refine gIloadN (pc := 4) hC dL_plainTimes_4 rfl 2 rfl ?_
  refine gVH (pc := 5) (rest := [.int (nI 0), .ref (wo q)]) (ci := 1) (q0 := 0) hC hl9 (c_X1_plainTimes l D (LC q f g μ) σ Δ x y hR) rfl rfl (cwV 2 hC.2.2.2.2.1 gL_plainTimes_X1_plainTimes rfl rfl rfl (by decide +kernel) ⟨Nat.le_of_ble_eq_true rfl, Nat.le_of_ble_eq_true rfl⟩) rfl rfl (Nat.le_of_ble_eq_true rfl) dL_plainTimes_5 ⟨Nat.le_of_ble_eq_true rfl, Nat.le_of_ble_eq_true rfl⟩ (fun E w1 hx => ?_) (fun v w1 hp => ?_)
  · skip
    obtain ⟨σ1, rfl, h1, hE⟩ := hx
    rcases hE with ⟨rfl, hK⟩ | ⟨rfl, hK⟩
    · skip
      refine gHdN (pc := 5) hC [] (0, 10, 13, 13) [(0, 10, 17, 61)] hT rfl (fun z hz => absurd hz List.not_mem_nil) (by decide +kernel) (by decide) (by decide +kernel) (by decide +kernel) (fun a => ?_)
      refine gStk (st' := [.ref a]) (pc' := 13) rfl rfl ?_
      refine gAstore (pc := 13) hC (lv' := [(4, .ref a), (0, .ref (wx q)), (1, .int x), (2, .int y), (3, .ref (wo q))]) dL_plainTimes_13 (by decide) rfl ?_
      refine gIconst (pc := 15) hC (v := (nI 1)) dL_plainTimes_15 (by decide +kernel) ?_
      exact gRetIX hC hQ hr (Nat.le_of_ble_eq_true rfl) (Nat.le_of_ble_eq_true rfl) dL_plainTimes_16 (⟨by rw [hK], σ1, f, rfl, Or.inr ⟨by rw [hK]; decide, h1⟩⟩)
    · skip
      refine gHdN (pc := 5) hC [(0, 10, 13, 13)] (0, 10, 17, 61) [] hT rfl (by intro z hz; simp only [List.mem_cons, List.not_mem_nil, or_false] at hz; subst hz; exact ⟨by decide, "java/lang/IndexOutOfBoundsException", (by decide +kernel), (by decide +kernel)⟩) (by decide +kernel) (by decide) (by decide +kernel) (by decide +kernel) (fun a => ?_)
      refine gStk (st' := [.ref a]) (pc' := 17) rfl rfl ?_
      refine gAstore (pc := 17) hC (lv' := [(4, .ref a), (0, .ref (wx q)), (1, .int x), (2, .int y), (3, .ref (wo q))]) dL_plainTimes_17 (by decide) rfl ?_
      refine gIconst (pc := 19) hC (v := (nI 2)) dL_plainTimes_19 (by decide +kernel) ?_
      exact gRetIX hC hQ hr (Nat.le_of_ble_eq_true rfl) (Nat.le_of_ble_eq_true rfl) dL_plainTimes_20 (⟨by rw [hK], σ1, f, rfl, Or.inr ⟨by rw [hK]; decide, h1⟩⟩)
  · skip
    obtain ⟨hK, rfl, σ1, rfl, h1⟩ := hp
    obtain ⟨v0, hv0⟩ : ∃ v0, v0 = (nI (cz (pp (Δ.2.1 (rI x)) (Δ.2.2 (rI x)) (Δ.2.2 (rI y))) (2 * (Δ.2.1 (rI x))))) := ⟨_, rfl⟩
    refine gStk (st' := [.int (nI (cz (pp (Δ.2.1 (rI x)) (Δ.2.2 (rI x)) (Δ.2.2 (rI y))) (2 * (Δ.2.1 (rI x))))), .int (nI 0), .ref (wo q)]) (pc' := 8) rfl rfl ?_
    rw [← hv0]
    refine gI2l (pc := 8) hC dL_plainTimes_8 rfl ?_
    refine gLast (pc := 9) (ws' := WC (LC q (vp_updL f 0 v0.toInt64) g μ) σ1) hC 0 rfl (by decide) (by decide) 22 3 rfl rfl dL_plainTimes_9 (wo_set ..) ?_
    refine gGoto (pc := 10) hC (tgt := 21) dL_plainTimes_10 (by decide) ?_
    refine gIconst (pc := 21) hC (v := (nI 0)) dL_plainTimes_21 (by decide +kernel) ?_
    exact gRetIX hC hQ hr (Nat.le_of_ble_eq_true rfl) (Nat.le_of_ble_eq_true rfl) dL_plainTimes_22 (⟨by rw [hK], σ1, _, rfl, Or.inl ⟨hK, ⟨_, rfl, hv0⟩, h1⟩⟩)

abbrev rmL_invert : Room := { frames := 8, cells := 2, slots := 12, locals := 138 }
set_option maxRecDepth 100000 in
set_option maxHeartbeats 4000000 in
theorem c_L_invert (l : Launch) (D : va_G) (q : wLay) (σ : cSt) (μ : mSt) (f : Nat → Int64) (g : Nat → UInt64) (Δ : dSt) (x : Int32) (hR : cRel σ Δ) : gX l yL_invert wsL_invert rmL_invert D (wTy q) (WC (LC q f g μ) σ) [.ref (wx q), .int x, .ref (wo q)] 2 12 (wPost q g μ Δ (dRow Δ (rI x) (Δ.2.1 (rI x)) (bk (Δ.2.1 (rI x)) (un Δ.1 (Δ.2.1 (rI x))) (fun i => iv ((ps (Δ.2.1 (rI x)) (un Δ.1 (Δ.2.1 (rI x))) 1 (Δ.2.2 (rI x))) i)))) (kk2 (okR x) (cz (ps (Δ.2.1 (rI x)) (un Δ.1 (Δ.2.1 (rI x))) 1 (Δ.2.2 (rI x))) (Δ.2.1 (rI x)) = 0)) (fun t : Int64 => ∃ v : Int32, t = v.toInt64 ∧ (fun b => b = nI ((bk (Δ.2.1 (rI x)) (un Δ.1 (Δ.2.1 (rI x))) (fun i => iv ((ps (Δ.2.1 (rI x)) (un Δ.1 (Δ.2.1 (rI x))) 1 (Δ.2.2 (rI x))) i))) 0).val) v)) (fun _ _ => False) := by
  refine gX.ofH (cc := cL_invert) (maxL := 4) (ret := (some .int)) (own := RL) (by decide) rfl rfl (Nat.le_of_ble_eq_true rfl) rfl ?_
  intro p e s m args below meth c A Q hC hr hQ hT hl9
  refine gAloadN (pc := 0) hC dL_invert_0 rfl 2 rfl ?_
  refine gIconst (pc := 1) hC (v := (nI 0)) dL_invert_1 (by decide +kernel) ?_
  refine gAloadN (pc := 2) hC dL_invert_2 rfl 0 rfl ?_
  refine gIloadN (pc := 3) hC dL_invert_3 rfl 1 rfl ?_
  refine gVH (pc := 4) (rest := [.int (nI 0), .ref (wo q)]) (ci := 1) (q0 := 0) hC hl9 (c_X1_invert l D (LC q f g μ) σ Δ x hR) rfl rfl (cwV 1 hC.2.2.2.2.1 gL_invert_X1_invert rfl rfl rfl (by decide +kernel) ⟨Nat.le_of_ble_eq_true rfl, Nat.le_of_ble_eq_true rfl⟩) rfl rfl (Nat.le_of_ble_eq_true rfl) dL_invert_4 ⟨Nat.le_of_ble_eq_true rfl, Nat.le_of_ble_eq_true rfl⟩ (fun E w1 hx => ?_) (fun v w1 hp => ?_)
  · skip
    obtain ⟨σ1, rfl, h1, hE⟩ := hx
    rcases hE with ⟨rfl, hK⟩ | ⟨rfl, hK⟩
    · skip
      refine gHdN (pc := 4) hC [] (0, 9, 12, 13) [(0, 9, 15, 61)] hT rfl (fun z hz => absurd hz List.not_mem_nil) (by decide +kernel) (by decide) (by decide +kernel) (by decide +kernel) (fun a => ?_)
      refine gStk (st' := [.ref a]) (pc' := 12) rfl rfl ?_
      refine gAstoreN (pc := 12) hC (lv' := [(3, .ref a), (0, .ref (wx q)), (1, .int x), (2, .ref (wo q))]) dL_invert_12 rfl (by decide) rfl ?_
      refine gIconst (pc := 13) hC (v := (nI 1)) dL_invert_13 (by decide +kernel) ?_
      exact gRetIX hC hQ hr (Nat.le_of_ble_eq_true rfl) (Nat.le_of_ble_eq_true rfl) dL_invert_14 (⟨by rw [hK], σ1, f, rfl, Or.inr ⟨by rw [hK]; decide, h1⟩⟩)
    · skip
      refine gHdN (pc := 4) hC [(0, 9, 12, 13)] (0, 9, 15, 61) [] hT rfl (by intro z hz; simp only [List.mem_cons, List.not_mem_nil, or_false] at hz; subst hz; exact ⟨by decide, "java/lang/IndexOutOfBoundsException", (by decide +kernel), (by decide +kernel)⟩) (by decide +kernel) (by decide) (by decide +kernel) (by decide +kernel) (fun a => ?_)
      refine gStk (st' := [.ref a]) (pc' := 15) rfl rfl ?_
      refine gAstoreN (pc := 15) hC (lv' := [(3, .ref a), (0, .ref (wx q)), (1, .int x), (2, .ref (wo q))]) dL_invert_15 rfl (by decide) rfl ?_
      refine gIconst (pc := 16) hC (v := (nI 2)) dL_invert_16 (by decide +kernel) ?_
      exact gRetIX hC hQ hr (Nat.le_of_ble_eq_true rfl) (Nat.le_of_ble_eq_true rfl) dL_invert_17 (⟨by rw [hK], σ1, f, rfl, Or.inr ⟨by rw [hK]; decide, h1⟩⟩)
  · skip
    obtain ⟨hK, rfl, σ1, rfl, h1⟩ := hp
    obtain ⟨v0, hv0⟩ : ∃ v0, v0 = (nI ((bk (Δ.2.1 (rI x)) (un Δ.1 (Δ.2.1 (rI x))) (fun i => iv ((ps (Δ.2.1 (rI x)) (un Δ.1 (Δ.2.1 (rI x))) 1 (Δ.2.2 (rI x))) i))) 0).val) := ⟨_, rfl⟩
    refine gStk (st' := [.int (nI ((bk (Δ.2.1 (rI x)) (un Δ.1 (Δ.2.1 (rI x))) (fun i => iv ((ps (Δ.2.1 (rI x)) (un Δ.1 (Δ.2.1 (rI x))) 1 (Δ.2.2 (rI x))) i))) 0).val), .int (nI 0), .ref (wo q)]) (pc' := 7) rfl rfl ?_
    rw [← hv0]
    refine gI2l (pc := 7) hC dL_invert_7 rfl ?_
    refine gLast (pc := 8) (ws' := WC (LC q (vp_updL f 0 v0.toInt64) g μ) σ1) hC 0 rfl (by decide) (by decide) 22 3 rfl rfl dL_invert_8 (wo_set ..) ?_
    refine gGoto (pc := 9) hC (tgt := 18) dL_invert_9 (by decide) ?_
    refine gIconst (pc := 18) hC (v := (nI 0)) dL_invert_18 (by decide +kernel) ?_
    exact gRetIX hC hQ hr (Nat.le_of_ble_eq_true rfl) (Nat.le_of_ble_eq_true rfl) dL_invert_19 (⟨by rw [hK], σ1, _, rfl, Or.inl ⟨hK, ⟨_, rfl, hv0⟩, h1⟩⟩)

abbrev rmL_digits : Room := { frames := 8, cells := 1, slots := 6, locals := 126 }
set_option maxRecDepth 100000 in
set_option maxHeartbeats 4000000 in
theorem c_L_digits (l : Launch) (D : va_G) (q : wLay) (σ : cSt) (μ : mSt) (f : Nat → Int64) (g : Nat → UInt64) (Δ : dSt) (x : Int32) (y : Int32) (hR : cRel σ Δ) : gX l yL_digits wsL_digits rmL_digits D (wTy q) (WC (LC q f g μ) σ) [.ref (wx q), .int x, .int y, .ref (wo q)] 1 6 (wPost q g μ Δ (dRow Δ (rI x) 16 (dg y)) (kk1 (okR x)) (fun t : Int64 => ∃ v : Int32, t = v.toInt64 ∧ (fun b => b = nI (16 - cz (dg y) 16)) v)) (fun _ _ => False) := by
  refine gX.ofH (cc := cL_digits) (maxL := 5) (ret := (some .int)) (own := RL) (by decide) rfl rfl (Nat.le_of_ble_eq_true rfl) rfl ?_
  intro p e s m args below meth c A Q hC hr hQ hT hl9
  refine gAloadN (pc := 0) hC dL_digits_0 rfl 3 rfl ?_
  refine gIconst (pc := 1) hC (v := (nI 0)) dL_digits_1 (by decide +kernel) ?_
  refine gAloadN (pc := 2) hC dL_digits_2 rfl 0 rfl ?_
  refine gIloadN (pc := 3) hC dL_digits_3 rfl 1 rfl ?_
  refine gIloadN (pc := 4) hC dL_digits_4 rfl 2 rfl ?_
  refine gVH (pc := 5) (rest := [.int (nI 0), .ref (wo q)]) (ci := 1) (q0 := 0) hC hl9 (c_X1_digits l D (LC q f g μ) σ Δ x y hR) rfl rfl (cwV 2 hC.2.2.2.2.1 gL_digits_X1_digits rfl rfl rfl (by decide +kernel) ⟨Nat.le_of_ble_eq_true rfl, Nat.le_of_ble_eq_true rfl⟩) rfl rfl (Nat.le_of_ble_eq_true rfl) dL_digits_5 ⟨Nat.le_of_ble_eq_true rfl, Nat.le_of_ble_eq_true rfl⟩ (fun E w1 hx => ?_) (fun v w1 hp => ?_)
  · skip
    obtain ⟨σ1, rfl, h1, hE⟩ := hx
    obtain ⟨rfl, hK⟩ := hE
    refine gHdN (pc := 5) hC [] (0, 10, 13, 13) [] hT rfl (fun z hz => absurd hz List.not_mem_nil) (by decide +kernel) (by decide) (by decide +kernel) (by decide +kernel) (fun a => ?_)
    refine gStk (st' := [.ref a]) (pc' := 13) rfl rfl ?_
    refine gAstore (pc := 13) hC (lv' := [(4, .ref a), (0, .ref (wx q)), (1, .int x), (2, .int y), (3, .ref (wo q))]) dL_digits_13 (by decide) rfl ?_
    refine gIconst (pc := 15) hC (v := (nI 1)) dL_digits_15 (by decide +kernel) ?_
    exact gRetIX hC hQ hr (Nat.le_of_ble_eq_true rfl) (Nat.le_of_ble_eq_true rfl) dL_digits_16 (⟨by rw [hK], σ1, f, rfl, Or.inr ⟨by rw [hK]; decide, h1⟩⟩)
  · skip
    obtain ⟨hK, rfl, σ1, rfl, h1⟩ := hp
    obtain ⟨v0, hv0⟩ : ∃ v0, v0 = (nI (16 - cz (dg y) 16)) := ⟨_, rfl⟩
    refine gStk (st' := [.int (nI (16 - cz (dg y) 16)), .int (nI 0), .ref (wo q)]) (pc' := 8) rfl rfl ?_
    rw [← hv0]
    refine gI2l (pc := 8) hC dL_digits_8 rfl ?_
    refine gLast (pc := 9) (ws' := WC (LC q (vp_updL f 0 v0.toInt64) g μ) σ1) hC 0 rfl (by decide) (by decide) 22 3 rfl rfl dL_digits_9 (wo_set ..) ?_
    refine gGoto (pc := 10) hC (tgt := 17) dL_digits_10 (by decide) ?_
    refine gIconst (pc := 17) hC (v := (nI 0)) dL_digits_17 (by decide +kernel) ?_
    exact gRetIX hC hQ hr (Nat.le_of_ble_eq_true rfl) (Nat.le_of_ble_eq_true rfl) dL_digits_18 (⟨by rw [hK], σ1, _, rfl, Or.inl ⟨hK, ⟨_, rfl, hv0⟩, h1⟩⟩)

abbrev rmL_told : Room := { frames := 8, cells := 1, slots := 6, locals := 124 }
set_option maxRecDepth 100000 in
set_option maxHeartbeats 4000000 in
theorem c_L_told (l : Launch) (D : va_G) (q : wLay) (σ : cSt) (μ : mSt) (f : Nat → Int64) (g : Nat → UInt64) (Δ : dSt) (x : Int32) (hR : cRel σ Δ) : gX l yL_told wsL_told rmL_told D (wTy q) (WC (LC q f g μ) σ) [.ref (wx q), .int x, .ref (wo q)] 1 6 (wPost q g μ Δ (Δ) (kk1 (okR x)) (fun b => b = lN (sn (Δ.2.1 (rI x)) (fun i => ((Δ.2.2 (rI x)) i).val * 2 ^ (4 * i))))) (fun _ _ => False) := by
  refine gX.ofH (cc := cL_told) (maxL := 4) (ret := (some .int)) (own := RL) (by decide) rfl rfl (Nat.le_of_ble_eq_true rfl) rfl ?_
  intro p e s m args below meth c A Q hC hr hQ hT hl9
  refine gAloadN (pc := 0) hC dL_told_0 rfl 2 rfl ?_
  refine gIconst (pc := 1) hC (v := (nI 0)) dL_told_1 (by decide +kernel) ?_
  refine gAloadN (pc := 2) hC dL_told_2 rfl 0 rfl ?_
  refine gIloadN (pc := 3) hC dL_told_3 rfl 1 rfl ?_
  refine gVH (pc := 4) (rest := [.int (nI 0), .ref (wo q)]) (ci := 1) (q0 := 0) hC hl9 (c_X1_told l D (LC q f g μ) σ Δ x hR) rfl rfl (cwV 1 hC.2.2.2.2.1 gL_told_X1_told rfl rfl rfl (by decide +kernel) ⟨Nat.le_of_ble_eq_true rfl, Nat.le_of_ble_eq_true rfl⟩) rfl rfl (Nat.le_of_ble_eq_true rfl) dL_told_4 ⟨Nat.le_of_ble_eq_true rfl, Nat.le_of_ble_eq_true rfl⟩ (fun E w1 hx => ?_) (fun v w1 hp => ?_)
  · skip
    obtain ⟨σ1, rfl, h1, hE⟩ := hx
    obtain ⟨rfl, hK⟩ := hE
    refine gHdN (pc := 4) hC [] (0, 8, 11, 13) [] hT rfl (fun z hz => absurd hz List.not_mem_nil) (by decide +kernel) (by decide) (by decide +kernel) (by decide +kernel) (fun a => ?_)
    refine gStk (st' := [.ref a]) (pc' := 11) rfl rfl ?_
    refine gAstoreN (pc := 11) hC (lv' := [(3, .ref a), (0, .ref (wx q)), (1, .int x), (2, .ref (wo q))]) dL_told_11 rfl (by decide) rfl ?_
    refine gIconst (pc := 12) hC (v := (nI 1)) dL_told_12 (by decide +kernel) ?_
    exact gRetIX hC hQ hr (Nat.le_of_ble_eq_true rfl) (Nat.le_of_ble_eq_true rfl) dL_told_13 (⟨by rw [hK], σ1, f, rfl, Or.inr ⟨by rw [hK]; decide, h1⟩⟩)
  · skip
    obtain ⟨hK, rfl, σ1, rfl, h1⟩ := hp
    obtain ⟨v0, hv0⟩ : ∃ v0, v0 = (lN (sn (Δ.2.1 (rI x)) (fun i => ((Δ.2.2 (rI x)) i).val * 2 ^ (4 * i)))) := ⟨_, rfl⟩
    refine gStk (st' := [.long (lN (sn (Δ.2.1 (rI x)) (fun i => ((Δ.2.2 (rI x)) i).val * 2 ^ (4 * i)))), .int (nI 0), .ref (wo q)]) (pc' := 7) rfl rfl ?_
    rw [← hv0]
    refine gLast (pc := 7) (ws' := WC (LC q (vp_updL f 0 v0) g μ) σ1) hC 0 rfl (by decide) (by decide) 22 3 rfl rfl dL_told_7 (wo_set ..) ?_
    refine gGoto (pc := 8) hC (tgt := 14) dL_told_8 (by decide) ?_
    refine gIconst (pc := 14) hC (v := (nI 0)) dL_told_14 (by decide +kernel) ?_
    exact gRetIX hC hQ hr (Nat.le_of_ble_eq_true rfl) (Nat.le_of_ble_eq_true rfl) dL_told_15 (⟨by rw [hK], σ1, _, rfl, Or.inl ⟨hK, hv0, h1⟩⟩)

abbrev rmL_shift : Room := { frames := 8, cells := 1, slots := 6, locals := 126 }
set_option maxRecDepth 100000 in
set_option maxHeartbeats 4000000 in
theorem c_L_shift (l : Launch) (D : va_G) (q : wLay) (σ : cSt) (μ : mSt) (f : Nat → Int64) (g : Nat → UInt64) (Δ : dSt) (x : Int32) (y : Int32) (hR : cRel σ Δ) : gX l yL_shift wsL_shift rmL_shift D (wTy q) (WC (LC q f g μ) σ) [.ref (wx q), .int x, .int y, .ref (wo q)] 1 6 (wPost q g μ Δ (dRow Δ (rI x) (Δ.2.1 (rI x)) (fun i => (Δ.2.2 (rI x)) (ix (Δ.2.1 (rI x)) ((i : Int) - y.toInt)))) (kk1 (okR x)) (fun t : Int64 => ∃ v : Int32, t = v.toInt64 ∧ (fun b => b = nI ((fun i => (Δ.2.2 (rI x)) (ix (Δ.2.1 (rI x)) ((i : Int) - y.toInt))) 0).val) v)) (fun _ _ => False) := by
  refine gX.ofH (cc := cL_shift) (maxL := 5) (ret := (some .int)) (own := RL) (by decide) rfl rfl (Nat.le_of_ble_eq_true rfl) rfl ?_
  intro p e s m args below meth c A Q hC hr hQ hT hl9
  refine gAloadN (pc := 0) hC dL_shift_0 rfl 3 rfl ?_
  refine gIconst (pc := 1) hC (v := (nI 0)) dL_shift_1 (by decide +kernel) ?_
  refine gAloadN (pc := 2) hC dL_shift_2 rfl 0 rfl ?_
  refine gIloadN (pc := 3) hC dL_shift_3 rfl 1 rfl ?_
  refine gIloadN (pc := 4) hC dL_shift_4 rfl 2 rfl ?_
  refine gVH (pc := 5) (rest := [.int (nI 0), .ref (wo q)]) (ci := 1) (q0 := 0) hC hl9 (c_X1_shift l D (LC q f g μ) σ Δ x y hR) rfl rfl (cwV 2 hC.2.2.2.2.1 gL_shift_X1_shift rfl rfl rfl (by decide +kernel) ⟨Nat.le_of_ble_eq_true rfl, Nat.le_of_ble_eq_true rfl⟩) rfl rfl (Nat.le_of_ble_eq_true rfl) dL_shift_5 ⟨Nat.le_of_ble_eq_true rfl, Nat.le_of_ble_eq_true rfl⟩ (fun E w1 hx => ?_) (fun v w1 hp => ?_)
  · skip
    obtain ⟨σ1, rfl, h1, hE⟩ := hx
    obtain ⟨rfl, hK⟩ := hE
    refine gHdN (pc := 5) hC [] (0, 10, 13, 13) [] hT rfl (fun z hz => absurd hz List.not_mem_nil) (by decide +kernel) (by decide) (by decide +kernel) (by decide +kernel) (fun a => ?_)
    refine gStk (st' := [.ref a]) (pc' := 13) rfl rfl ?_
    refine gAstore (pc := 13) hC (lv' := [(4, .ref a), (0, .ref (wx q)), (1, .int x), (2, .int y), (3, .ref (wo q))]) dL_shift_13 (by decide) rfl ?_
    refine gIconst (pc := 15) hC (v := (nI 1)) dL_shift_15 (by decide +kernel) ?_
    exact gRetIX hC hQ hr (Nat.le_of_ble_eq_true rfl) (Nat.le_of_ble_eq_true rfl) dL_shift_16 (⟨by rw [hK], σ1, f, rfl, Or.inr ⟨by rw [hK]; decide, h1⟩⟩)
  · skip
    obtain ⟨hK, rfl, σ1, rfl, h1⟩ := hp
    obtain ⟨v0, hv0⟩ : ∃ v0, v0 = (nI ((fun i => (Δ.2.2 (rI x)) (ix (Δ.2.1 (rI x)) ((i : Int) - y.toInt))) 0).val) := ⟨_, rfl⟩
    refine gStk (st' := [.int (nI ((fun i => (Δ.2.2 (rI x)) (ix (Δ.2.1 (rI x)) ((i : Int) - y.toInt))) 0).val), .int (nI 0), .ref (wo q)]) (pc' := 8) rfl rfl ?_
    rw [← hv0]
    refine gI2l (pc := 8) hC dL_shift_8 rfl ?_
    refine gLast (pc := 9) (ws' := WC (LC q (vp_updL f 0 v0.toInt64) g μ) σ1) hC 0 rfl (by decide) (by decide) 22 3 rfl rfl dL_shift_9 (wo_set ..) ?_
    refine gGoto (pc := 10) hC (tgt := 17) dL_shift_10 (by decide) ?_
    refine gIconst (pc := 17) hC (v := (nI 0)) dL_shift_17 (by decide +kernel) ?_
    exact gRetIX hC hQ hr (Nat.le_of_ble_eq_true rfl) (Nat.le_of_ble_eq_true rfl) dL_shift_18 (⟨by rw [hK], σ1, _, rfl, Or.inl ⟨hK, ⟨_, rfl, hv0⟩, h1⟩⟩)

abbrev rmL_weigh : Room := { frames := 8, cells := 1, slots := 6, locals := 126 }
set_option maxRecDepth 100000 in
set_option maxHeartbeats 4000000 in
theorem c_L_weigh (l : Launch) (D : va_G) (q : wLay) (σ : cSt) (μ : mSt) (f : Nat → Int64) (g : Nat → UInt64) (Δ : dSt) (x : Int32) (y : Int32) (hR : cRel σ Δ) : gX l yL_weigh wsL_weigh rmL_weigh D (wTy q) (WC (LC q f g μ) σ) [.ref (wx q), .int x, .int y, .ref (wo q)] 1 6 (wPost q g μ Δ (dRow Δ (rI x) (Δ.2.1 (rI x)) (fun i => (Δ.2.2 (rI x)) i * pz ((un Δ.1 (Δ.2.1 (rI x))) * (y.toInt * i)))) (kk1 (okR x)) (fun t : Int64 => ∃ v : Int32, t = v.toInt64 ∧ (fun b => b = nI ((fun i => (Δ.2.2 (rI x)) i * pz ((un Δ.1 (Δ.2.1 (rI x))) * (y.toInt * i))) 1).val) v)) (fun _ _ => False) := by
  refine gX.ofH (cc := cL_weigh) (maxL := 5) (ret := (some .int)) (own := RL) (by decide) rfl rfl (Nat.le_of_ble_eq_true rfl) rfl ?_
  intro p e s m args below meth c A Q hC hr hQ hT hl9
  refine gAloadN (pc := 0) hC dL_weigh_0 rfl 3 rfl ?_
  refine gIconst (pc := 1) hC (v := (nI 0)) dL_weigh_1 (by decide +kernel) ?_
  refine gAloadN (pc := 2) hC dL_weigh_2 rfl 0 rfl ?_
  refine gIloadN (pc := 3) hC dL_weigh_3 rfl 1 rfl ?_
  refine gIloadN (pc := 4) hC dL_weigh_4 rfl 2 rfl ?_
  refine gVH (pc := 5) (rest := [.int (nI 0), .ref (wo q)]) (ci := 1) (q0 := 0) hC hl9 (c_X1_weigh l D (LC q f g μ) σ Δ x y hR) rfl rfl (cwV 2 hC.2.2.2.2.1 gL_weigh_X1_weigh rfl rfl rfl (by decide +kernel) ⟨Nat.le_of_ble_eq_true rfl, Nat.le_of_ble_eq_true rfl⟩) rfl rfl (Nat.le_of_ble_eq_true rfl) dL_weigh_5 ⟨Nat.le_of_ble_eq_true rfl, Nat.le_of_ble_eq_true rfl⟩ (fun E w1 hx => ?_) (fun v w1 hp => ?_)
  · skip
    obtain ⟨σ1, rfl, h1, hE⟩ := hx
    obtain ⟨rfl, hK⟩ := hE
    refine gHdN (pc := 5) hC [] (0, 10, 13, 13) [] hT rfl (fun z hz => absurd hz List.not_mem_nil) (by decide +kernel) (by decide) (by decide +kernel) (by decide +kernel) (fun a => ?_)
    refine gStk (st' := [.ref a]) (pc' := 13) rfl rfl ?_
    refine gAstore (pc := 13) hC (lv' := [(4, .ref a), (0, .ref (wx q)), (1, .int x), (2, .int y), (3, .ref (wo q))]) dL_weigh_13 (by decide) rfl ?_
    refine gIconst (pc := 15) hC (v := (nI 1)) dL_weigh_15 (by decide +kernel) ?_
    exact gRetIX hC hQ hr (Nat.le_of_ble_eq_true rfl) (Nat.le_of_ble_eq_true rfl) dL_weigh_16 (⟨by rw [hK], σ1, f, rfl, Or.inr ⟨by rw [hK]; decide, h1⟩⟩)
  · skip
    obtain ⟨hK, rfl, σ1, rfl, h1⟩ := hp
    obtain ⟨v0, hv0⟩ : ∃ v0, v0 = (nI ((fun i => (Δ.2.2 (rI x)) i * pz ((un Δ.1 (Δ.2.1 (rI x))) * (y.toInt * i))) 1).val) := ⟨_, rfl⟩
    refine gStk (st' := [.int (nI ((fun i => (Δ.2.2 (rI x)) i * pz ((un Δ.1 (Δ.2.1 (rI x))) * (y.toInt * i))) 1).val), .int (nI 0), .ref (wo q)]) (pc' := 8) rfl rfl ?_
    rw [← hv0]
    refine gI2l (pc := 8) hC dL_weigh_8 rfl ?_
    refine gLast (pc := 9) (ws' := WC (LC q (vp_updL f 0 v0.toInt64) g μ) σ1) hC 0 rfl (by decide) (by decide) 22 3 rfl rfl dL_weigh_9 (wo_set ..) ?_
    refine gGoto (pc := 10) hC (tgt := 17) dL_weigh_10 (by decide) ?_
    refine gIconst (pc := 17) hC (v := (nI 0)) dL_weigh_17 (by decide +kernel) ?_
    exact gRetIX hC hQ hr (Nat.le_of_ble_eq_true rfl) (Nat.le_of_ble_eq_true rfl) dL_weigh_18 (⟨by rw [hK], σ1, _, rfl, Or.inl ⟨hK, ⟨_, rfl, hv0⟩, h1⟩⟩)

abbrev rmL_turnRound : Room := { frames := 8, cells := 1, slots := 6, locals := 126 }
set_option maxRecDepth 100000 in
set_option maxHeartbeats 4000000 in
theorem c_L_turnRound (l : Launch) (D : va_G) (q : wLay) (σ : cSt) (μ : mSt) (f : Nat → Int64) (g : Nat → UInt64) (Δ : dSt) (x : Int32) (hR : cRel σ Δ) : gX l yL_turnRound wsL_turnRound rmL_turnRound D (wTy q) (WC (LC q f g μ) σ) [.ref (wx q), .int x, .ref (wo q)] 1 6 (wPost q g μ Δ (dRow Δ (rI x) (Δ.2.1 (rI x)) (fun i => (Δ.2.2 (rI x)) (ix (Δ.2.1 (rI x)) (-(i : Int))))) (kk1 (okR x)) (fun t : Int64 => ∃ v : Int32, t = bl v ∧ (fun b => b = if 0 < cd (Δ.2.2 (rI x)) (fun i => (Δ.2.2 (rI x)) (ix (Δ.2.1 (rI x)) (-(i : Int)))) (Δ.2.1 (rI x)) then nI 1 else nI 0) v)) (fun _ _ => False) := by
  refine gX.ofH (cc := cL_turnRound) (maxL := 4) (ret := (some .int)) (own := RL) (by decide) rfl rfl (Nat.le_of_ble_eq_true rfl) rfl ?_
  intro p e s m args below meth c A Q hC hr hQ hT hl9
  refine gAloadN (pc := 0) hC dL_turnRound_0 rfl 2 rfl ?_
  refine gIconst (pc := 1) hC (v := (nI 0)) dL_turnRound_1 (by decide +kernel) ?_
  refine gAloadN (pc := 2) hC dL_turnRound_2 rfl 0 rfl ?_
  refine gIloadN (pc := 3) hC dL_turnRound_3 rfl 1 rfl ?_
  refine gVH (pc := 4) (rest := [.int (nI 0), .ref (wo q)]) (ci := 1) (q0 := 0) hC hl9 (c_X1_turnRound l D (LC q f g μ) σ Δ x hR) rfl rfl (cwV 1 hC.2.2.2.2.1 gL_turnRound_X1_turnRound rfl rfl rfl (by decide +kernel) ⟨Nat.le_of_ble_eq_true rfl, Nat.le_of_ble_eq_true rfl⟩) rfl rfl (Nat.le_of_ble_eq_true rfl) dL_turnRound_4 ⟨Nat.le_of_ble_eq_true rfl, Nat.le_of_ble_eq_true rfl⟩ (fun E w1 hx => ?_) (fun v w1 hp => ?_)
  · skip
    obtain ⟨σ1, rfl, h1, hE⟩ := hx
    obtain ⟨rfl, hK⟩ := hE
    refine gHdN (pc := 4) hC [] (0, 16, 19, 13) [] hT rfl (fun z hz => absurd hz List.not_mem_nil) (by decide +kernel) (by decide) (by decide +kernel) (by decide +kernel) (fun a => ?_)
    refine gStk (st' := [.ref a]) (pc' := 19) rfl rfl ?_
    refine gAstoreN (pc := 19) hC (lv' := [(3, .ref a), (0, .ref (wx q)), (1, .int x), (2, .ref (wo q))]) dL_turnRound_19 rfl (by decide) rfl ?_
    refine gIconst (pc := 20) hC (v := (nI 1)) dL_turnRound_20 (by decide +kernel) ?_
    exact gRetIX hC hQ hr (Nat.le_of_ble_eq_true rfl) (Nat.le_of_ble_eq_true rfl) dL_turnRound_21 (⟨by rw [hK], σ1, f, rfl, Or.inr ⟨by rw [hK]; decide, h1⟩⟩)
  · skip
    obtain ⟨hK, rfl, σ1, rfl, h1⟩ := hp
    obtain ⟨v0, hv0⟩ : ∃ v0, v0 = (if 0 < cd (Δ.2.2 (rI x)) (fun i => (Δ.2.2 (rI x)) (ix (Δ.2.1 (rI x)) (-(i : Int)))) (Δ.2.1 (rI x)) then nI 1 else nI 0) := ⟨_, rfl⟩
    refine gStk (st' := [.int (if 0 < cd (Δ.2.2 (rI x)) (fun i => (Δ.2.2 (rI x)) (ix (Δ.2.1 (rI x)) (-(i : Int)))) (Δ.2.1 (rI x)) then nI 1 else nI 0), .int (nI 0), .ref (wo q)]) (pc' := 7) rfl rfl ?_
    rw [← hv0]
    refine gNl (pc := 7) hC dL_turnRound_7 dL_turnRound_10 dL_turnRound_11 dL_turnRound_14 ?_
    refine gStk (st' := [.long (bl v0), .int (nI 0), .ref (wo q)]) (pc' := 15) rfl rfl ?_
    refine gLast (pc := 15) (ws' := WC (LC q (vp_updL f 0 (bl v0)) g μ) σ1) hC 0 rfl (by decide) (by decide) 22 3 rfl rfl dL_turnRound_15 (wo_set ..) ?_
    refine gGoto (pc := 16) hC (tgt := 22) dL_turnRound_16 (by decide) ?_
    refine gIconst (pc := 22) hC (v := (nI 0)) dL_turnRound_22 (by decide +kernel) ?_
    exact gRetIX hC hQ hr (Nat.le_of_ble_eq_true rfl) (Nat.le_of_ble_eq_true rfl) dL_turnRound_23 (⟨by rw [hK], σ1, _, rfl, Or.inl ⟨hK, ⟨_, rfl, hv0⟩, h1⟩⟩)

abbrev rmL_combine : Room := { frames := 8, cells := 3, slots := 18, locals := 128 }
set_option maxRecDepth 100000 in
set_option maxHeartbeats 4000000 in
theorem c_L_combine (l : Launch) (D : va_G) (q : wLay) (σ : cSt) (μ : mSt) (f : Nat → Int64) (g : Nat → UInt64) (Δ : dSt) (x : Int32) (y : Int32) (z : Int32) (hR : cRel σ Δ) : gX l yL_combine wsL_combine rmL_combine D (wTy q) (WC (LC q f g μ) σ) [.ref (wx q), .int x, .int y, .int z, .ref (wo q)] 3 18 (wPost q g μ Δ (dRow Δ (rI x) (Δ.2.1 (rI x)) (cmb z (Δ.2.2 (rI x)) (Δ.2.2 (rI y)))) (kk3 (okR x ∧ okR y) (okS z) ((Δ.2.1 (rI x)) = (Δ.2.1 (rI y)))) (fun t : Int64 => ∃ v : Int32, t = v.toInt64 ∧ (fun b => b = nI (cz (cmb z (Δ.2.2 (rI x)) (Δ.2.2 (rI y))) (Δ.2.1 (rI x)))) v)) (fun _ _ => False) := by
  refine gX.ofH (cc := cL_combine) (maxL := 6) (ret := (some .int)) (own := RL) (by decide) rfl rfl (Nat.le_of_ble_eq_true rfl) rfl ?_
  intro p e s m args below meth c A Q hC hr hQ hT hl9
  refine gAload (pc := 0) hC dL_combine_0 4 rfl ?_
  refine gIconst (pc := 2) hC (v := (nI 0)) dL_combine_2 (by decide +kernel) ?_
  refine gAloadN (pc := 3) hC dL_combine_3 rfl 0 rfl ?_
  refine gIloadN (pc := 4) hC dL_combine_4 rfl 1 rfl ?_
  refine gIloadN (pc := 5) hC dL_combine_5 rfl 2 rfl ?_
  refine gIloadN (pc := 6) hC dL_combine_6 rfl 3 rfl ?_
  refine gVH (pc := 7) (rest := [.int (nI 0), .ref (wo q)]) (ci := 1) (q0 := 0) hC hl9 (c_X1_combine l D (LC q f g μ) σ Δ x y z hR) rfl rfl (cwV 3 hC.2.2.2.2.1 gL_combine_X1_combine rfl rfl rfl (by decide +kernel) ⟨Nat.le_of_ble_eq_true rfl, Nat.le_of_ble_eq_true rfl⟩) rfl rfl (Nat.le_of_ble_eq_true rfl) dL_combine_7 ⟨Nat.le_of_ble_eq_true rfl, Nat.le_of_ble_eq_true rfl⟩ (fun E w1 hx => ?_) (fun v w1 hp => ?_)
  · skip
    obtain ⟨σ1, rfl, h1, hE⟩ := hx
    rcases hE with ⟨rfl, hK⟩ | ⟨rfl, hK⟩ | ⟨rfl, hK⟩
    · skip
      refine gHdN (pc := 7) hC [] (0, 12, 15, 13) [(0, 12, 19, 15), (0, 12, 23, 61)] hT rfl (fun z hz => absurd hz List.not_mem_nil) (by decide +kernel) (by decide) (by decide +kernel) (by decide +kernel) (fun a => ?_)
      refine gStk (st' := [.ref a]) (pc' := 15) rfl rfl ?_
      refine gAstore (pc := 15) hC (lv' := [(5, .ref a), (0, .ref (wx q)), (1, .int x), (2, .int y), (3, .int z), (4, .ref (wo q))]) dL_combine_15 (by decide) rfl ?_
      refine gIconst (pc := 17) hC (v := (nI 1)) dL_combine_17 (by decide +kernel) ?_
      exact gRetIX hC hQ hr (Nat.le_of_ble_eq_true rfl) (Nat.le_of_ble_eq_true rfl) dL_combine_18 (⟨by rw [hK], σ1, f, rfl, Or.inr ⟨by rw [hK]; decide, h1⟩⟩)
    · skip
      refine gHdN (pc := 7) hC [(0, 12, 15, 13)] (0, 12, 19, 15) [(0, 12, 23, 61)] hT rfl (by intro z hz; simp only [List.mem_cons, List.not_mem_nil, or_false] at hz; subst hz; exact ⟨by decide, "java/lang/IndexOutOfBoundsException", (by decide +kernel), (by decide +kernel)⟩) (by decide +kernel) (by decide) (by decide +kernel) (by decide +kernel) (fun a => ?_)
      refine gStk (st' := [.ref a]) (pc' := 19) rfl rfl ?_
      refine gAstore (pc := 19) hC (lv' := [(5, .ref a), (0, .ref (wx q)), (1, .int x), (2, .int y), (3, .int z), (4, .ref (wo q))]) dL_combine_19 (by decide) rfl ?_
      refine gIconst (pc := 21) hC (v := (nI 2)) dL_combine_21 (by decide +kernel) ?_
      exact gRetIX hC hQ hr (Nat.le_of_ble_eq_true rfl) (Nat.le_of_ble_eq_true rfl) dL_combine_22 (⟨by rw [hK], σ1, f, rfl, Or.inr ⟨by rw [hK]; decide, h1⟩⟩)
    · skip
      refine gHdN (pc := 7) hC [(0, 12, 15, 13), (0, 12, 19, 15)] (0, 12, 23, 61) [] hT rfl (by intro z hz; simp only [List.mem_cons, List.not_mem_nil, or_false] at hz; rcases hz with rfl | rfl <;> first | exact ⟨by decide, "java/lang/IndexOutOfBoundsException", (by decide +kernel), (by decide +kernel)⟩ | exact ⟨by decide, "java/lang/IllegalArgumentException", (by decide +kernel), (by decide +kernel)⟩) (by decide +kernel) (by decide) (by decide +kernel) (by decide +kernel) (fun a => ?_)
      refine gStk (st' := [.ref a]) (pc' := 23) rfl rfl ?_
      refine gAstore (pc := 23) hC (lv' := [(5, .ref a), (0, .ref (wx q)), (1, .int x), (2, .int y), (3, .int z), (4, .ref (wo q))]) dL_combine_23 (by decide) rfl ?_
      refine gIconst (pc := 25) hC (v := (nI 3)) dL_combine_25 (by decide +kernel) ?_
      exact gRetIX hC hQ hr (Nat.le_of_ble_eq_true rfl) (Nat.le_of_ble_eq_true rfl) dL_combine_26 (⟨by rw [hK], σ1, f, rfl, Or.inr ⟨by rw [hK]; decide, h1⟩⟩)
  · skip
    obtain ⟨hK, rfl, σ1, rfl, h1⟩ := hp
    obtain ⟨v0, hv0⟩ : ∃ v0, v0 = (nI (cz (cmb z (Δ.2.2 (rI x)) (Δ.2.2 (rI y))) (Δ.2.1 (rI x)))) := ⟨_, rfl⟩
    refine gStk (st' := [.int (nI (cz (cmb z (Δ.2.2 (rI x)) (Δ.2.2 (rI y))) (Δ.2.1 (rI x)))), .int (nI 0), .ref (wo q)]) (pc' := 10) rfl rfl ?_
    rw [← hv0]
    refine gI2l (pc := 10) hC dL_combine_10 rfl ?_
    refine gLast (pc := 11) (ws' := WC (LC q (vp_updL f 0 v0.toInt64) g μ) σ1) hC 0 rfl (by decide) (by decide) 22 3 rfl rfl dL_combine_11 (wo_set ..) ?_
    refine gGoto (pc := 12) hC (tgt := 27) dL_combine_12 (by decide) ?_
    refine gIconst (pc := 27) hC (v := (nI 0)) dL_combine_27 (by decide +kernel) ?_
    exact gRetIX hC hQ hr (Nat.le_of_ble_eq_true rfl) (Nat.le_of_ble_eq_true rfl) dL_combine_28 (⟨by rw [hK], σ1, _, rfl, Or.inl ⟨hK, ⟨_, rfl, hv0⟩, h1⟩⟩)

abbrev rmL_multiply : Room := { frames := 8, cells := 2, slots := 12, locals := 126 }
set_option maxRecDepth 100000 in
set_option maxHeartbeats 4000000 in
theorem c_L_multiply (l : Launch) (D : va_G) (q : wLay) (σ : cSt) (μ : mSt) (f : Nat → Int64) (g : Nat → UInt64) (Δ : dSt) (x : Int32) (y : Int32) (hR : cRel σ Δ) : gX l yL_multiply wsL_multiply rmL_multiply D (wTy q) (WC (LC q f g μ) σ) [.ref (wx q), .int x, .int y, .ref (wo q)] 2 12 (wPost q g μ Δ (dRow Δ (rI x) (Δ.2.1 (rI x)) (fun i => (Δ.2.2 (rI x)) i * nu y)) (kk2 (okR x) (okNum y)) (fun t : Int64 => ∃ v : Int32, t = v.toInt64 ∧ (fun b => b = nI (cz (fun i => (Δ.2.2 (rI x)) i * nu y) (Δ.2.1 (rI x)))) v)) (fun _ _ => False) := by
  refine gX.ofH (cc := cL_multiply) (maxL := 5) (ret := (some .int)) (own := RL) (by decide) rfl rfl (Nat.le_of_ble_eq_true rfl) rfl ?_
  intro p e s m args below meth c A Q hC hr hQ hT hl9
  refine gAloadN (pc := 0) hC dL_multiply_0 rfl 3 rfl ?_
  refine gIconst (pc := 1) hC (v := (nI 0)) dL_multiply_1 (by decide +kernel) ?_
  refine gAloadN (pc := 2) hC dL_multiply_2 rfl 0 rfl ?_
  refine gIloadN (pc := 3) hC dL_multiply_3 rfl 1 rfl ?_
  refine gIloadN (pc := 4) hC dL_multiply_4 rfl 2 rfl ?_
  refine gVH (pc := 5) (rest := [.int (nI 0), .ref (wo q)]) (ci := 1) (q0 := 0) hC hl9 (c_X1_multiply l D (LC q f g μ) σ Δ x y hR) rfl rfl (cwV 2 hC.2.2.2.2.1 gL_multiply_X1_multiply rfl rfl rfl (by decide +kernel) ⟨Nat.le_of_ble_eq_true rfl, Nat.le_of_ble_eq_true rfl⟩) rfl rfl (Nat.le_of_ble_eq_true rfl) dL_multiply_5 ⟨Nat.le_of_ble_eq_true rfl, Nat.le_of_ble_eq_true rfl⟩ (fun E w1 hx => ?_) (fun v w1 hp => ?_)
  · skip
    obtain ⟨σ1, rfl, h1, hE⟩ := hx
    rcases hE with ⟨rfl, hK⟩ | ⟨rfl, hK⟩
    · skip
      refine gHdN (pc := 5) hC [] (0, 10, 13, 13) [(0, 10, 17, 15)] hT rfl (fun z hz => absurd hz List.not_mem_nil) (by decide +kernel) (by decide) (by decide +kernel) (by decide +kernel) (fun a => ?_)
      refine gStk (st' := [.ref a]) (pc' := 13) rfl rfl ?_
      refine gAstore (pc := 13) hC (lv' := [(4, .ref a), (0, .ref (wx q)), (1, .int x), (2, .int y), (3, .ref (wo q))]) dL_multiply_13 (by decide) rfl ?_
      refine gIconst (pc := 15) hC (v := (nI 1)) dL_multiply_15 (by decide +kernel) ?_
      exact gRetIX hC hQ hr (Nat.le_of_ble_eq_true rfl) (Nat.le_of_ble_eq_true rfl) dL_multiply_16 (⟨by rw [hK], σ1, f, rfl, Or.inr ⟨by rw [hK]; decide, h1⟩⟩)
    · skip
      refine gHdN (pc := 5) hC [(0, 10, 13, 13)] (0, 10, 17, 15) [] hT rfl (by intro z hz; simp only [List.mem_cons, List.not_mem_nil, or_false] at hz; subst hz; exact ⟨by decide, "java/lang/IndexOutOfBoundsException", (by decide +kernel), (by decide +kernel)⟩) (by decide +kernel) (by decide) (by decide +kernel) (by decide +kernel) (fun a => ?_)
      refine gStk (st' := [.ref a]) (pc' := 17) rfl rfl ?_
      refine gAstore (pc := 17) hC (lv' := [(4, .ref a), (0, .ref (wx q)), (1, .int x), (2, .int y), (3, .ref (wo q))]) dL_multiply_17 (by decide) rfl ?_
      refine gIconst (pc := 19) hC (v := (nI 2)) dL_multiply_19 (by decide +kernel) ?_
      exact gRetIX hC hQ hr (Nat.le_of_ble_eq_true rfl) (Nat.le_of_ble_eq_true rfl) dL_multiply_20 (⟨by rw [hK], σ1, f, rfl, Or.inr ⟨by rw [hK]; decide, h1⟩⟩)
  · skip
    obtain ⟨hK, rfl, σ1, rfl, h1⟩ := hp
    obtain ⟨v0, hv0⟩ : ∃ v0, v0 = (nI (cz (fun i => (Δ.2.2 (rI x)) i * nu y) (Δ.2.1 (rI x)))) := ⟨_, rfl⟩
    refine gStk (st' := [.int (nI (cz (fun i => (Δ.2.2 (rI x)) i * nu y) (Δ.2.1 (rI x)))), .int (nI 0), .ref (wo q)]) (pc' := 8) rfl rfl ?_
    rw [← hv0]
    refine gI2l (pc := 8) hC dL_multiply_8 rfl ?_
    refine gLast (pc := 9) (ws' := WC (LC q (vp_updL f 0 v0.toInt64) g μ) σ1) hC 0 rfl (by decide) (by decide) 22 3 rfl rfl dL_multiply_9 (wo_set ..) ?_
    refine gGoto (pc := 10) hC (tgt := 21) dL_multiply_10 (by decide) ?_
    refine gIconst (pc := 21) hC (v := (nI 0)) dL_multiply_21 (by decide +kernel) ?_
    exact gRetIX hC hQ hr (Nat.le_of_ble_eq_true rfl) (Nat.le_of_ble_eq_true rfl) dL_multiply_22 (⟨by rw [hK], σ1, _, rfl, Or.inl ⟨hK, ⟨_, rfl, hv0⟩, h1⟩⟩)

abbrev rmL_repeat : Room := { frames := 8, cells := 2, slots := 12, locals := 127 }
set_option maxRecDepth 100000 in
set_option maxHeartbeats 4000000 in
theorem c_L_repeat (l : Launch) (D : va_G) (q : wLay) (σ : cSt) (μ : mSt) (f : Nat → Int64) (g : Nat → UInt64) (Δ : dSt) (x : Int32) (y : Int32) (hR : cRel σ Δ) : gX l yL_repeat wsL_repeat rmL_repeat D (wTy q) (WC (LC q f g μ) σ) [.ref (wx q), .int x, .int y, .ref (wo q)] 2 12 (wPost q g μ Δ (dRow Δ (rI x) (Δ.2.1 (rI x)) (fun i => (Δ.2.2 (rI x)) (i % (rI y)))) (kk2 (okR x) (okD y ∧ ¬ nI (Δ.2.1 (rI x)) < y)) (fun t : Int64 => ∃ v : Int32, t = v.toInt64 ∧ (fun b => b = nI (cd (Δ.2.2 (rI x)) (fun i => (Δ.2.2 (rI x)) (i % (rI y))) (Δ.2.1 (rI x)))) v)) (fun _ _ => False) := by
  refine gX.ofH (cc := cL_repeat) (maxL := 5) (ret := (some .int)) (own := RL) (by decide) rfl rfl (Nat.le_of_ble_eq_true rfl) rfl ?_
  intro p e s m args below meth c A Q hC hr hQ hT hl9
  refine gAloadN (pc := 0) hC dL_repeat_0 rfl 3 rfl ?_
  refine gIconst (pc := 1) hC (v := (nI 0)) dL_repeat_1 (by decide +kernel) ?_
  refine gAloadN (pc := 2) hC dL_repeat_2 rfl 0 rfl ?_
  refine gIloadN (pc := 3) hC dL_repeat_3 rfl 1 rfl ?_
  refine gIloadN (pc := 4) hC dL_repeat_4 rfl 2 rfl ?_
  refine gVH (pc := 5) (rest := [.int (nI 0), .ref (wo q)]) (ci := 1) (q0 := 0) hC hl9 (c_X1_repeat l D (LC q f g μ) σ Δ x y hR) rfl rfl (cwV 2 hC.2.2.2.2.1 gL_repeat_X1_repeat rfl rfl rfl (by decide +kernel) ⟨Nat.le_of_ble_eq_true rfl, Nat.le_of_ble_eq_true rfl⟩) rfl rfl (Nat.le_of_ble_eq_true rfl) dL_repeat_5 ⟨Nat.le_of_ble_eq_true rfl, Nat.le_of_ble_eq_true rfl⟩ (fun E w1 hx => ?_) (fun v w1 hp => ?_)
  · skip
    obtain ⟨σ1, rfl, h1, hE⟩ := hx
    rcases hE with ⟨rfl, hK⟩ | ⟨rfl, hK⟩
    · skip
      refine gHdN (pc := 5) hC [] (0, 10, 13, 13) [(0, 10, 17, 15)] hT rfl (fun z hz => absurd hz List.not_mem_nil) (by decide +kernel) (by decide) (by decide +kernel) (by decide +kernel) (fun a => ?_)
      refine gStk (st' := [.ref a]) (pc' := 13) rfl rfl ?_
      refine gAstore (pc := 13) hC (lv' := [(4, .ref a), (0, .ref (wx q)), (1, .int x), (2, .int y), (3, .ref (wo q))]) dL_repeat_13 (by decide) rfl ?_
      refine gIconst (pc := 15) hC (v := (nI 1)) dL_repeat_15 (by decide +kernel) ?_
      exact gRetIX hC hQ hr (Nat.le_of_ble_eq_true rfl) (Nat.le_of_ble_eq_true rfl) dL_repeat_16 (⟨by rw [hK], σ1, f, rfl, Or.inr ⟨by rw [hK]; decide, h1⟩⟩)
    · skip
      refine gHdN (pc := 5) hC [(0, 10, 13, 13)] (0, 10, 17, 15) [] hT rfl (by intro z hz; simp only [List.mem_cons, List.not_mem_nil, or_false] at hz; subst hz; exact ⟨by decide, "java/lang/IndexOutOfBoundsException", (by decide +kernel), (by decide +kernel)⟩) (by decide +kernel) (by decide) (by decide +kernel) (by decide +kernel) (fun a => ?_)
      refine gStk (st' := [.ref a]) (pc' := 17) rfl rfl ?_
      refine gAstore (pc := 17) hC (lv' := [(4, .ref a), (0, .ref (wx q)), (1, .int x), (2, .int y), (3, .ref (wo q))]) dL_repeat_17 (by decide) rfl ?_
      refine gIconst (pc := 19) hC (v := (nI 2)) dL_repeat_19 (by decide +kernel) ?_
      exact gRetIX hC hQ hr (Nat.le_of_ble_eq_true rfl) (Nat.le_of_ble_eq_true rfl) dL_repeat_20 (⟨by rw [hK], σ1, f, rfl, Or.inr ⟨by rw [hK]; decide, h1⟩⟩)
  · skip
    obtain ⟨hK, rfl, σ1, rfl, h1⟩ := hp
    obtain ⟨v0, hv0⟩ : ∃ v0, v0 = (nI (cd (Δ.2.2 (rI x)) (fun i => (Δ.2.2 (rI x)) (i % (rI y))) (Δ.2.1 (rI x)))) := ⟨_, rfl⟩
    refine gStk (st' := [.int (nI (cd (Δ.2.2 (rI x)) (fun i => (Δ.2.2 (rI x)) (i % (rI y))) (Δ.2.1 (rI x)))), .int (nI 0), .ref (wo q)]) (pc' := 8) rfl rfl ?_
    rw [← hv0]
    refine gI2l (pc := 8) hC dL_repeat_8 rfl ?_
    refine gLast (pc := 9) (ws' := WC (LC q (vp_updL f 0 v0.toInt64) g μ) σ1) hC 0 rfl (by decide) (by decide) 22 3 rfl rfl dL_repeat_9 (wo_set ..) ?_
    refine gGoto (pc := 10) hC (tgt := 21) dL_repeat_10 (by decide) ?_
    refine gIconst (pc := 21) hC (v := (nI 0)) dL_repeat_21 (by decide +kernel) ?_
    exact gRetIX hC hQ hr (Nat.le_of_ble_eq_true rfl) (Nat.le_of_ble_eq_true rfl) dL_repeat_22 (⟨by rw [hK], σ1, _, rfl, Or.inl ⟨hK, ⟨_, rfl, hv0⟩, h1⟩⟩)

abbrev rmL_own : Room := { frames := 8, cells := 1, slots := 6, locals := 137 }
set_option maxRecDepth 100000 in
set_option maxHeartbeats 4000000 in
theorem c_L_own (l : Launch) (D : va_G) (q : wLay) (σ : cSt) (μ : mSt) (f : Nat → Int64) (g : Nat → UInt64) (Δ : dSt) (x : Int32) (hR : cRel σ Δ) : gX l yL_own wsL_own rmL_own D (wTy q) (WC (LC q f g μ) σ) [.ref (wx q), .int x, .ref (wo q)] 1 6 (wPost q g μ Δ (dRow Δ (rI x) (Δ.2.1 (rI x)) (ow (Δ.2.1 (rI x)) (un Δ.1 (Δ.2.1 (rI x))) (Δ.2.2 (rI x)))) (kk1 (okR x)) (fun t : Int64 => ∃ v : Int32, t = v.toInt64 ∧ (fun b => b = nI (cz (ow (Δ.2.1 (rI x)) (un Δ.1 (Δ.2.1 (rI x))) (Δ.2.2 (rI x))) (Δ.2.1 (rI x)))) v)) (fun _ _ => False) := by
  refine gX.ofH (cc := cL_own) (maxL := 4) (ret := (some .int)) (own := RL) (by decide) rfl rfl (Nat.le_of_ble_eq_true rfl) rfl ?_
  intro p e s m args below meth c A Q hC hr hQ hT hl9
  refine gAloadN (pc := 0) hC dL_own_0 rfl 2 rfl ?_
  refine gIconst (pc := 1) hC (v := (nI 0)) dL_own_1 (by decide +kernel) ?_
  refine gAloadN (pc := 2) hC dL_own_2 rfl 0 rfl ?_
  refine gIloadN (pc := 3) hC dL_own_3 rfl 1 rfl ?_
  refine gVH (pc := 4) (rest := [.int (nI 0), .ref (wo q)]) (ci := 1) (q0 := 0) hC hl9 (c_X1_own l D (LC q f g μ) σ Δ x hR) rfl rfl (cwV 1 hC.2.2.2.2.1 gL_own_X1_own rfl rfl rfl (by decide +kernel) ⟨Nat.le_of_ble_eq_true rfl, Nat.le_of_ble_eq_true rfl⟩) rfl rfl (Nat.le_of_ble_eq_true rfl) dL_own_4 ⟨Nat.le_of_ble_eq_true rfl, Nat.le_of_ble_eq_true rfl⟩ (fun E w1 hx => ?_) (fun v w1 hp => ?_)
  · skip
    obtain ⟨σ1, rfl, h1, hE⟩ := hx
    obtain ⟨rfl, hK⟩ := hE
    refine gHdN (pc := 4) hC [] (0, 9, 12, 13) [] hT rfl (fun z hz => absurd hz List.not_mem_nil) (by decide +kernel) (by decide) (by decide +kernel) (by decide +kernel) (fun a => ?_)
    refine gStk (st' := [.ref a]) (pc' := 12) rfl rfl ?_
    refine gAstoreN (pc := 12) hC (lv' := [(3, .ref a), (0, .ref (wx q)), (1, .int x), (2, .ref (wo q))]) dL_own_12 rfl (by decide) rfl ?_
    refine gIconst (pc := 13) hC (v := (nI 1)) dL_own_13 (by decide +kernel) ?_
    exact gRetIX hC hQ hr (Nat.le_of_ble_eq_true rfl) (Nat.le_of_ble_eq_true rfl) dL_own_14 (⟨by rw [hK], σ1, f, rfl, Or.inr ⟨by rw [hK]; decide, h1⟩⟩)
  · skip
    obtain ⟨hK, rfl, σ1, rfl, h1⟩ := hp
    obtain ⟨v0, hv0⟩ : ∃ v0, v0 = (nI (cz (ow (Δ.2.1 (rI x)) (un Δ.1 (Δ.2.1 (rI x))) (Δ.2.2 (rI x))) (Δ.2.1 (rI x)))) := ⟨_, rfl⟩
    refine gStk (st' := [.int (nI (cz (ow (Δ.2.1 (rI x)) (un Δ.1 (Δ.2.1 (rI x))) (Δ.2.2 (rI x))) (Δ.2.1 (rI x)))), .int (nI 0), .ref (wo q)]) (pc' := 7) rfl rfl ?_
    rw [← hv0]
    refine gI2l (pc := 7) hC dL_own_7 rfl ?_
    refine gLast (pc := 8) (ws' := WC (LC q (vp_updL f 0 v0.toInt64) g μ) σ1) hC 0 rfl (by decide) (by decide) 22 3 rfl rfl dL_own_8 (wo_set ..) ?_
    refine gGoto (pc := 9) hC (tgt := 15) dL_own_9 (by decide) ?_
    refine gIconst (pc := 15) hC (v := (nI 0)) dL_own_15 (by decide +kernel) ?_
    exact gRetIX hC hQ hr (Nat.le_of_ble_eq_true rfl) (Nat.le_of_ble_eq_true rfl) dL_own_16 (⟨by rw [hK], σ1, _, rfl, Or.inl ⟨hK, ⟨_, rfl, hv0⟩, h1⟩⟩)

abbrev rmL_period : Room := { frames := 8, cells := 1, slots := 6, locals := 126 }
set_option maxRecDepth 100000 in
set_option maxHeartbeats 4000000 in
theorem c_L_period (l : Launch) (D : va_G) (q : wLay) (σ : cSt) (μ : mSt) (f : Nat → Int64) (g : Nat → UInt64) (Δ : dSt) (x : Int32) (hR : cRel σ Δ) : gX l yL_period wsL_period rmL_period D (wTy q) (WC (LC q f g μ) σ) [.ref (wx q), .int x, .ref (wo q)] 1 6 (wPost q g μ Δ (Δ) (kk1 (okR x)) (fun t : Int64 => ∃ v : Int32, t = v.toInt64 ∧ (fun b => ∃ d, b = nI d ∧ isPd (Δ.2.1 (rI x)) (Δ.2.2 (rI x)) d) v)) (fun _ _ => False) := by
  refine gX.ofH (cc := cL_period) (maxL := 4) (ret := (some .int)) (own := RL) (by decide) rfl rfl (Nat.le_of_ble_eq_true rfl) rfl ?_
  intro p e s m args below meth c A Q hC hr hQ hT hl9
  refine gAloadN (pc := 0) hC dL_period_0 rfl 2 rfl ?_
  refine gIconst (pc := 1) hC (v := (nI 0)) dL_period_1 (by decide +kernel) ?_
  refine gAloadN (pc := 2) hC dL_period_2 rfl 0 rfl ?_
  refine gIloadN (pc := 3) hC dL_period_3 rfl 1 rfl ?_
  refine gVH (pc := 4) (rest := [.int (nI 0), .ref (wo q)]) (ci := 1) (q0 := 0) hC hl9 (c_X1_period l D (LC q f g μ) σ Δ x hR) rfl rfl (cwV 1 hC.2.2.2.2.1 gL_period_X1_period rfl rfl rfl (by decide +kernel) ⟨Nat.le_of_ble_eq_true rfl, Nat.le_of_ble_eq_true rfl⟩) rfl rfl (Nat.le_of_ble_eq_true rfl) dL_period_4 ⟨Nat.le_of_ble_eq_true rfl, Nat.le_of_ble_eq_true rfl⟩ (fun E w1 hx => ?_) (fun v w1 hp => ?_)
  · skip
    obtain ⟨σ1, rfl, h1, hE⟩ := hx
    obtain ⟨rfl, hK⟩ := hE
    refine gHdN (pc := 4) hC [] (0, 9, 12, 13) [] hT rfl (fun z hz => absurd hz List.not_mem_nil) (by decide +kernel) (by decide) (by decide +kernel) (by decide +kernel) (fun a => ?_)
    refine gStk (st' := [.ref a]) (pc' := 12) rfl rfl ?_
    refine gAstoreN (pc := 12) hC (lv' := [(3, .ref a), (0, .ref (wx q)), (1, .int x), (2, .ref (wo q))]) dL_period_12 rfl (by decide) rfl ?_
    refine gIconst (pc := 13) hC (v := (nI 1)) dL_period_13 (by decide +kernel) ?_
    exact gRetIX hC hQ hr (Nat.le_of_ble_eq_true rfl) (Nat.le_of_ble_eq_true rfl) dL_period_14 (⟨by rw [hK], σ1, f, rfl, Or.inr ⟨by rw [hK]; decide, h1⟩⟩)
  · skip
    obtain ⟨hK, ⟨v1, rfl, hv1⟩, σ1, rfl, h1⟩ := hp
    obtain ⟨v0, hv0⟩ : ∃ v0, v0 = v1 := ⟨_, rfl⟩
    refine gStk (st' := [.int v1, .int (nI 0), .ref (wo q)]) (pc' := 7) rfl rfl ?_
    refine gI2l (pc := 7) hC dL_period_7 rfl ?_
    refine gLast (pc := 8) (ws' := WC (LC q (vp_updL f 0 v1.toInt64) g μ) σ1) hC 0 rfl (by decide) (by decide) 22 3 rfl rfl dL_period_8 (wo_set ..) ?_
    refine gGoto (pc := 9) hC (tgt := 15) dL_period_9 (by decide) ?_
    refine gIconst (pc := 15) hC (v := (nI 0)) dL_period_15 (by decide +kernel) ?_
    exact gRetIX hC hQ hr (Nat.le_of_ble_eq_true rfl) (Nat.le_of_ble_eq_true rfl) dL_period_16 (⟨by rw [hK], σ1, _, rfl, Or.inl ⟨hK, ⟨_, rfl, hv1⟩, h1⟩⟩)

abbrev rmL_factor : Room := { frames := 8, cells := 1, slots := 6, locals := 126 }
set_option maxRecDepth 100000 in
set_option maxHeartbeats 4000000 in
theorem c_L_factor (l : Launch) (D : va_G) (q : wLay) (σ : cSt) (μ : mSt) (f : Nat → Int64) (g : Nat → UInt64) (Δ : dSt) (x : Int32) (hR : cRel σ Δ) : gX l yL_factor wsL_factor rmL_factor D (wTy q) (WC (LC q f g μ) σ) [.ref (wx q), .int x, .ref (wo q)] 1 6 (wPost q g μ Δ (Δ) (kk1 (okR x)) (fun t : Int64 => ∃ v : Int32, t = v.toInt64 ∧ (fun b => ((∀ j, j < (Δ.2.1 (rI x)) → (Δ.2.2 (rI x)) j * (off (Δ.2.2 (rI x)) (ps (Δ.2.1 (rI x)) (un Δ.1 (Δ.2.1 (rI x))) 1 (Δ.2.2 (rI x))) (Δ.2.1 (rI x)) 0) = (ps (Δ.2.1 (rI x)) (un Δ.1 (Δ.2.1 (rI x))) 1 (Δ.2.2 (rI x))) j) ∧ b = nI (off (Δ.2.2 (rI x)) (ps (Δ.2.1 (rI x)) (un Δ.1 (Δ.2.1 (rI x))) 1 (Δ.2.2 (rI x))) (Δ.2.1 (rI x)) 0).val) ∨ ((¬ ∀ j, j < (Δ.2.1 (rI x)) → (Δ.2.2 (rI x)) j * (off (Δ.2.2 (rI x)) (ps (Δ.2.1 (rI x)) (un Δ.1 (Δ.2.1 (rI x))) 1 (Δ.2.2 (rI x))) (Δ.2.1 (rI x)) 0) = (ps (Δ.2.1 (rI x)) (un Δ.1 (Δ.2.1 (rI x))) 1 (Δ.2.2 (rI x))) j) ∧ b = -1)) v)) (fun _ _ => False) := by
  refine gX.ofH (cc := cL_factor) (maxL := 4) (ret := (some .int)) (own := RL) (by decide) rfl rfl (Nat.le_of_ble_eq_true rfl) rfl ?_
  intro p e s m args below meth c A Q hC hr hQ hT hl9
  refine gAloadN (pc := 0) hC dL_factor_0 rfl 2 rfl ?_
  refine gIconst (pc := 1) hC (v := (nI 0)) dL_factor_1 (by decide +kernel) ?_
  refine gAloadN (pc := 2) hC dL_factor_2 rfl 0 rfl ?_
  refine gIloadN (pc := 3) hC dL_factor_3 rfl 1 rfl ?_
  refine gVH (pc := 4) (rest := [.int (nI 0), .ref (wo q)]) (ci := 1) (q0 := 0) hC hl9 (c_X1_factor l D (LC q f g μ) σ Δ x hR) rfl rfl (cwV 1 hC.2.2.2.2.1 gL_factor_X1_factor rfl rfl rfl (by decide +kernel) ⟨Nat.le_of_ble_eq_true rfl, Nat.le_of_ble_eq_true rfl⟩) rfl rfl (Nat.le_of_ble_eq_true rfl) dL_factor_4 ⟨Nat.le_of_ble_eq_true rfl, Nat.le_of_ble_eq_true rfl⟩ (fun E w1 hx => ?_) (fun v w1 hp => ?_)
  · skip
    obtain ⟨σ1, rfl, h1, hE⟩ := hx
    obtain ⟨rfl, hK⟩ := hE
    refine gHdN (pc := 4) hC [] (0, 9, 12, 13) [] hT rfl (fun z hz => absurd hz List.not_mem_nil) (by decide +kernel) (by decide) (by decide +kernel) (by decide +kernel) (fun a => ?_)
    refine gStk (st' := [.ref a]) (pc' := 12) rfl rfl ?_
    refine gAstoreN (pc := 12) hC (lv' := [(3, .ref a), (0, .ref (wx q)), (1, .int x), (2, .ref (wo q))]) dL_factor_12 rfl (by decide) rfl ?_
    refine gIconst (pc := 13) hC (v := (nI 1)) dL_factor_13 (by decide +kernel) ?_
    exact gRetIX hC hQ hr (Nat.le_of_ble_eq_true rfl) (Nat.le_of_ble_eq_true rfl) dL_factor_14 (⟨by rw [hK], σ1, f, rfl, Or.inr ⟨by rw [hK]; decide, h1⟩⟩)
  · skip
    obtain ⟨hK, ⟨v1, rfl, hv1⟩, σ1, rfl, h1⟩ := hp
    obtain ⟨v0, hv0⟩ : ∃ v0, v0 = v1 := ⟨_, rfl⟩
    refine gStk (st' := [.int v1, .int (nI 0), .ref (wo q)]) (pc' := 7) rfl rfl ?_
    refine gI2l (pc := 7) hC dL_factor_7 rfl ?_
    refine gLast (pc := 8) (ws' := WC (LC q (vp_updL f 0 v1.toInt64) g μ) σ1) hC 0 rfl (by decide) (by decide) 22 3 rfl rfl dL_factor_8 (wo_set ..) ?_
    refine gGoto (pc := 9) hC (tgt := 15) dL_factor_9 (by decide) ?_
    refine gIconst (pc := 15) hC (v := (nI 0)) dL_factor_15 (by decide +kernel) ?_
    exact gRetIX hC hQ hr (Nat.le_of_ble_eq_true rfl) (Nat.le_of_ble_eq_true rfl) dL_factor_16 (⟨by rw [hK], σ1, _, rfl, Or.inl ⟨hK, ⟨_, rfl, hv1⟩, h1⟩⟩)

abbrev rmL_sum : Room := { frames := 8, cells := 3, slots := 18, locals := 128 }
set_option maxRecDepth 100000 in
set_option maxHeartbeats 4000000 in
theorem c_L_sum (l : Launch) (D : va_G) (q : wLay) (σ : cSt) (μ : mSt) (f : Nat → Int64) (g : Nat → UInt64) (Δ : dSt) (x : Int32) (y : Int32) (z : Int32) (hR : cRel σ Δ) : gX l yL_sum wsL_sum rmL_sum D (wTy q) (WC (LC q f g μ) σ) [.ref (wx q), .int x, .int y, .int z, .ref (wo q)] 3 18 (wPost q g μ Δ (Δ) (kk2 (okR x ∧ okR y) ((Δ.2.1 (rI x)) = (Δ.2.1 (rI y)))) (fun t : Int64 => ∃ v : Int32, t = v.toInt64 ∧ (fun b => b = nI (sg (Δ.2.1 (rI x)) (fun i => (Δ.2.2 (rI x)) i * (Δ.2.2 (rI y)) (ix (Δ.2.1 (rI x)) (if z = 0 then (i : Int) else -(i : Int))))).val) v)) (fun _ _ => False) := by
  refine gX.ofH (cc := cL_sum) (maxL := 6) (ret := (some .int)) (own := RL) (by decide) rfl rfl (Nat.le_of_ble_eq_true rfl) rfl ?_
  intro p e s m args below meth c A Q hC hr hQ hT hl9
  refine gAload (pc := 0) hC dL_sum_0 4 rfl ?_
  refine gIconst (pc := 2) hC (v := (nI 0)) dL_sum_2 (by decide +kernel) ?_
  refine gAloadN (pc := 3) hC dL_sum_3 rfl 0 rfl ?_
  refine gIloadN (pc := 4) hC dL_sum_4 rfl 1 rfl ?_
  refine gIloadN (pc := 5) hC dL_sum_5 rfl 2 rfl ?_
  refine gIloadN (pc := 6) hC dL_sum_6 rfl 3 rfl ?_
  refine gVH (pc := 7) (rest := [.int (nI 0), .ref (wo q)]) (ci := 1) (q0 := 0) hC hl9 (c_X1_sum l D (LC q f g μ) σ Δ x y z hR) rfl rfl (cwV 3 hC.2.2.2.2.1 gL_sum_X1_sum rfl rfl rfl (by decide +kernel) ⟨Nat.le_of_ble_eq_true rfl, Nat.le_of_ble_eq_true rfl⟩) rfl rfl (Nat.le_of_ble_eq_true rfl) dL_sum_7 ⟨Nat.le_of_ble_eq_true rfl, Nat.le_of_ble_eq_true rfl⟩ (fun E w1 hx => ?_) (fun v w1 hp => ?_)
  · skip
    obtain ⟨σ1, rfl, h1, hE⟩ := hx
    rcases hE with ⟨rfl, hK⟩ | ⟨rfl, hK⟩
    · skip
      refine gHdN (pc := 7) hC [] (0, 12, 15, 13) [(0, 12, 19, 61)] hT rfl (fun z hz => absurd hz List.not_mem_nil) (by decide +kernel) (by decide) (by decide +kernel) (by decide +kernel) (fun a => ?_)
      refine gStk (st' := [.ref a]) (pc' := 15) rfl rfl ?_
      refine gAstore (pc := 15) hC (lv' := [(5, .ref a), (0, .ref (wx q)), (1, .int x), (2, .int y), (3, .int z), (4, .ref (wo q))]) dL_sum_15 (by decide) rfl ?_
      refine gIconst (pc := 17) hC (v := (nI 1)) dL_sum_17 (by decide +kernel) ?_
      exact gRetIX hC hQ hr (Nat.le_of_ble_eq_true rfl) (Nat.le_of_ble_eq_true rfl) dL_sum_18 (⟨by rw [hK], σ1, f, rfl, Or.inr ⟨by rw [hK]; decide, h1⟩⟩)
    · skip
      refine gHdN (pc := 7) hC [(0, 12, 15, 13)] (0, 12, 19, 61) [] hT rfl (by intro z hz; simp only [List.mem_cons, List.not_mem_nil, or_false] at hz; subst hz; exact ⟨by decide, "java/lang/IndexOutOfBoundsException", (by decide +kernel), (by decide +kernel)⟩) (by decide +kernel) (by decide) (by decide +kernel) (by decide +kernel) (fun a => ?_)
      refine gStk (st' := [.ref a]) (pc' := 19) rfl rfl ?_
      refine gAstore (pc := 19) hC (lv' := [(5, .ref a), (0, .ref (wx q)), (1, .int x), (2, .int y), (3, .int z), (4, .ref (wo q))]) dL_sum_19 (by decide) rfl ?_
      refine gIconst (pc := 21) hC (v := (nI 2)) dL_sum_21 (by decide +kernel) ?_
      exact gRetIX hC hQ hr (Nat.le_of_ble_eq_true rfl) (Nat.le_of_ble_eq_true rfl) dL_sum_22 (⟨by rw [hK], σ1, f, rfl, Or.inr ⟨by rw [hK]; decide, h1⟩⟩)
  · skip
    obtain ⟨hK, rfl, σ1, rfl, h1⟩ := hp
    obtain ⟨v0, hv0⟩ : ∃ v0, v0 = (nI (sg (Δ.2.1 (rI x)) (fun i => (Δ.2.2 (rI x)) i * (Δ.2.2 (rI y)) (ix (Δ.2.1 (rI x)) (if z = 0 then (i : Int) else -(i : Int))))).val) := ⟨_, rfl⟩
    refine gStk (st' := [.int (nI (sg (Δ.2.1 (rI x)) (fun i => (Δ.2.2 (rI x)) i * (Δ.2.2 (rI y)) (ix (Δ.2.1 (rI x)) (if z = 0 then (i : Int) else -(i : Int))))).val), .int (nI 0), .ref (wo q)]) (pc' := 10) rfl rfl ?_
    rw [← hv0]
    refine gI2l (pc := 10) hC dL_sum_10 rfl ?_
    refine gLast (pc := 11) (ws' := WC (LC q (vp_updL f 0 v0.toInt64) g μ) σ1) hC 0 rfl (by decide) (by decide) 22 3 rfl rfl dL_sum_11 (wo_set ..) ?_
    refine gGoto (pc := 12) hC (tgt := 23) dL_sum_12 (by decide) ?_
    refine gIconst (pc := 23) hC (v := (nI 0)) dL_sum_23 (by decide +kernel) ?_
    exact gRetIX hC hQ hr (Nat.le_of_ble_eq_true rfl) (Nat.le_of_ble_eq_true rfl) dL_sum_24 (⟨by rw [hK], σ1, _, rfl, Or.inl ⟨hK, ⟨_, rfl, hv0⟩, h1⟩⟩)

abbrev rmL_isBack : Room := { frames := 8, cells := 1, slots := 6, locals := 159 }
set_option maxRecDepth 100000 in
set_option maxHeartbeats 4000000 in
theorem c_L_isBack (l : Launch) (D : va_G) (q : wLay) (σ : cSt) (μ : mSt) (f : Nat → Int64) (g : Nat → UInt64) (Δ : dSt) (x : Int32) (hR : cRel σ Δ) : gX l yL_isBack wsL_isBack rmL_isBack D (wTy q) (WC (LC q f g μ) σ) [.ref (wx q), .int x, .ref (wo q)] 1 6 (wPost q g μ Δ (Δ) (kk1 (okR x)) (fun t : Int64 => ∃ v : Int32, t = bl v ∧ (fun b => b = nI 1) v)) (fun _ _ => False) := by
  refine gX.ofH (cc := cL_isBack) (maxL := 4) (ret := (some .int)) (own := RL) (by decide) rfl rfl (Nat.le_of_ble_eq_true rfl) rfl ?_
  intro p e s m args below meth c A Q hC hr hQ hT hl9
  refine gAloadN (pc := 0) hC dL_isBack_0 rfl 2 rfl ?_
  refine gIconst (pc := 1) hC (v := (nI 0)) dL_isBack_1 (by decide +kernel) ?_
  refine gAloadN (pc := 2) hC dL_isBack_2 rfl 0 rfl ?_
  refine gIloadN (pc := 3) hC dL_isBack_3 rfl 1 rfl ?_
  refine gVH (pc := 4) (rest := [.int (nI 0), .ref (wo q)]) (ci := 1) (q0 := 0) hC hl9 (c_X1_isBack l D (LC q f g μ) σ Δ x hR) rfl rfl (cwV 1 hC.2.2.2.2.1 gL_isBack_X1_isBack rfl rfl rfl (by decide +kernel) ⟨Nat.le_of_ble_eq_true rfl, Nat.le_of_ble_eq_true rfl⟩) rfl rfl (Nat.le_of_ble_eq_true rfl) dL_isBack_4 ⟨Nat.le_of_ble_eq_true rfl, Nat.le_of_ble_eq_true rfl⟩ (fun E w1 hx => ?_) (fun v w1 hp => ?_)
  · skip
    obtain ⟨σ1, rfl, h1, hE⟩ := hx
    obtain ⟨rfl, hK⟩ := hE
    refine gHdN (pc := 4) hC [] (0, 16, 19, 13) [] hT rfl (fun z hz => absurd hz List.not_mem_nil) (by decide +kernel) (by decide) (by decide +kernel) (by decide +kernel) (fun a => ?_)
    refine gStk (st' := [.ref a]) (pc' := 19) rfl rfl ?_
    refine gAstoreN (pc := 19) hC (lv' := [(3, .ref a), (0, .ref (wx q)), (1, .int x), (2, .ref (wo q))]) dL_isBack_19 rfl (by decide) rfl ?_
    refine gIconst (pc := 20) hC (v := (nI 1)) dL_isBack_20 (by decide +kernel) ?_
    exact gRetIX hC hQ hr (Nat.le_of_ble_eq_true rfl) (Nat.le_of_ble_eq_true rfl) dL_isBack_21 (⟨by rw [hK], σ1, f, rfl, Or.inr ⟨by rw [hK]; decide, h1⟩⟩)
  · skip
    obtain ⟨hK, rfl, σ1, rfl, h1⟩ := hp
    obtain ⟨v0, hv0⟩ : ∃ v0, v0 = (nI 1) := ⟨_, rfl⟩
    refine gStk (st' := [.int (nI 1), .int (nI 0), .ref (wo q)]) (pc' := 7) rfl rfl ?_
    rw [← hv0]
    refine gNl (pc := 7) hC dL_isBack_7 dL_isBack_10 dL_isBack_11 dL_isBack_14 ?_
    refine gStk (st' := [.long (bl v0), .int (nI 0), .ref (wo q)]) (pc' := 15) rfl rfl ?_
    refine gLast (pc := 15) (ws' := WC (LC q (vp_updL f 0 (bl v0)) g μ) σ1) hC 0 rfl (by decide) (by decide) 22 3 rfl rfl dL_isBack_15 (wo_set ..) ?_
    refine gGoto (pc := 16) hC (tgt := 22) dL_isBack_16 (by decide) ?_
    refine gIconst (pc := 22) hC (v := (nI 0)) dL_isBack_22 (by decide +kernel) ?_
    exact gRetIX hC hQ hr (Nat.le_of_ble_eq_true rfl) (Nat.le_of_ble_eq_true rfl) dL_isBack_23 (⟨by rw [hK], σ1, _, rfl, Or.inl ⟨hK, ⟨_, rfl, hv0⟩, h1⟩⟩)

abbrev rmL_isOwn : Room := { frames := 8, cells := 1, slots := 6, locals := 157 }
set_option maxRecDepth 100000 in
set_option maxHeartbeats 4000000 in
theorem c_L_isOwn (l : Launch) (D : va_G) (q : wLay) (σ : cSt) (μ : mSt) (f : Nat → Int64) (g : Nat → UInt64) (Δ : dSt) (x : Int32) (hR : cRel σ Δ) : gX l yL_isOwn wsL_isOwn rmL_isOwn D (wTy q) (WC (LC q f g μ) σ) [.ref (wx q), .int x, .ref (wo q)] 1 6 (wPost q g μ Δ (Δ) (kk1 (okR x)) (fun t : Int64 => ∃ v : Int32, t = bl v ∧ (fun b => b = nI 1) v)) (fun _ _ => False) := by
  refine gX.ofH (cc := cL_isOwn) (maxL := 4) (ret := (some .int)) (own := RL) (by decide) rfl rfl (Nat.le_of_ble_eq_true rfl) rfl ?_
  intro p e s m args below meth c A Q hC hr hQ hT hl9
  refine gAloadN (pc := 0) hC dL_isOwn_0 rfl 2 rfl ?_
  refine gIconst (pc := 1) hC (v := (nI 0)) dL_isOwn_1 (by decide +kernel) ?_
  refine gAloadN (pc := 2) hC dL_isOwn_2 rfl 0 rfl ?_
  refine gIloadN (pc := 3) hC dL_isOwn_3 rfl 1 rfl ?_
  refine gVH (pc := 4) (rest := [.int (nI 0), .ref (wo q)]) (ci := 1) (q0 := 0) hC hl9 (c_X1_isOwn l D (LC q f g μ) σ Δ x hR) rfl rfl (cwV 1 hC.2.2.2.2.1 gL_isOwn_X1_isOwn rfl rfl rfl (by decide +kernel) ⟨Nat.le_of_ble_eq_true rfl, Nat.le_of_ble_eq_true rfl⟩) rfl rfl (Nat.le_of_ble_eq_true rfl) dL_isOwn_4 ⟨Nat.le_of_ble_eq_true rfl, Nat.le_of_ble_eq_true rfl⟩ (fun E w1 hx => ?_) (fun v w1 hp => ?_)
  · skip
    obtain ⟨σ1, rfl, h1, hE⟩ := hx
    obtain ⟨rfl, hK⟩ := hE
    refine gHdN (pc := 4) hC [] (0, 16, 19, 13) [] hT rfl (fun z hz => absurd hz List.not_mem_nil) (by decide +kernel) (by decide) (by decide +kernel) (by decide +kernel) (fun a => ?_)
    refine gStk (st' := [.ref a]) (pc' := 19) rfl rfl ?_
    refine gAstoreN (pc := 19) hC (lv' := [(3, .ref a), (0, .ref (wx q)), (1, .int x), (2, .ref (wo q))]) dL_isOwn_19 rfl (by decide) rfl ?_
    refine gIconst (pc := 20) hC (v := (nI 1)) dL_isOwn_20 (by decide +kernel) ?_
    exact gRetIX hC hQ hr (Nat.le_of_ble_eq_true rfl) (Nat.le_of_ble_eq_true rfl) dL_isOwn_21 (⟨by rw [hK], σ1, f, rfl, Or.inr ⟨by rw [hK]; decide, h1⟩⟩)
  · skip
    obtain ⟨hK, rfl, σ1, rfl, h1⟩ := hp
    obtain ⟨v0, hv0⟩ : ∃ v0, v0 = (nI 1) := ⟨_, rfl⟩
    refine gStk (st' := [.int (nI 1), .int (nI 0), .ref (wo q)]) (pc' := 7) rfl rfl ?_
    rw [← hv0]
    refine gNl (pc := 7) hC dL_isOwn_7 dL_isOwn_10 dL_isOwn_11 dL_isOwn_14 ?_
    refine gStk (st' := [.long (bl v0), .int (nI 0), .ref (wo q)]) (pc' := 15) rfl rfl ?_
    refine gLast (pc := 15) (ws' := WC (LC q (vp_updL f 0 (bl v0)) g μ) σ1) hC 0 rfl (by decide) (by decide) 22 3 rfl rfl dL_isOwn_15 (wo_set ..) ?_
    refine gGoto (pc := 16) hC (tgt := 22) dL_isOwn_16 (by decide) ?_
    refine gIconst (pc := 22) hC (v := (nI 0)) dL_isOwn_22 (by decide +kernel) ?_
    exact gRetIX hC hQ hr (Nat.le_of_ble_eq_true rfl) (Nat.le_of_ble_eq_true rfl) dL_isOwn_23 (⟨by rw [hK], σ1, _, rfl, Or.inl ⟨hK, ⟨_, rfl, hv0⟩, h1⟩⟩)

abbrev rmL_isInverse : Room := { frames := 8, cells := 1, slots := 6, locals := 158 }
set_option maxRecDepth 100000 in
set_option maxHeartbeats 4000000 in
theorem c_L_isInverse (l : Launch) (D : va_G) (q : wLay) (σ : cSt) (μ : mSt) (f : Nat → Int64) (g : Nat → UInt64) (Δ : dSt) (x : Int32) (hR : cRel σ Δ) : gX l yL_isInverse wsL_isInverse rmL_isInverse D (wTy q) (WC (LC q f g μ) σ) [.ref (wx q), .int x, .ref (wo q)] 1 6 (wPost q g μ Δ (Δ) (kk1 (okR x)) (fun t : Int64 => ∃ v : Int32, t = bl v ∧ (fun b => b = nI 1) v)) (fun _ _ => False) := by
  refine gX.ofH (cc := cL_isInverse) (maxL := 4) (ret := (some .int)) (own := RL) (by decide) rfl rfl (Nat.le_of_ble_eq_true rfl) rfl ?_
  intro p e s m args below meth c A Q hC hr hQ hT hl9
  refine gAloadN (pc := 0) hC dL_isInverse_0 rfl 2 rfl ?_
  refine gIconst (pc := 1) hC (v := (nI 0)) dL_isInverse_1 (by decide +kernel) ?_
  refine gAloadN (pc := 2) hC dL_isInverse_2 rfl 0 rfl ?_
  refine gIloadN (pc := 3) hC dL_isInverse_3 rfl 1 rfl ?_
  refine gVH (pc := 4) (rest := [.int (nI 0), .ref (wo q)]) (ci := 1) (q0 := 0) hC hl9 (c_X1_isInverse l D (LC q f g μ) σ Δ x hR) rfl rfl (cwV 1 hC.2.2.2.2.1 gL_isInverse_X1_isInverse rfl rfl rfl (by decide +kernel) ⟨Nat.le_of_ble_eq_true rfl, Nat.le_of_ble_eq_true rfl⟩) rfl rfl (Nat.le_of_ble_eq_true rfl) dL_isInverse_4 ⟨Nat.le_of_ble_eq_true rfl, Nat.le_of_ble_eq_true rfl⟩ (fun E w1 hx => ?_) (fun v w1 hp => ?_)
  · skip
    obtain ⟨σ1, rfl, h1, hE⟩ := hx
    obtain ⟨rfl, hK⟩ := hE
    refine gHdN (pc := 4) hC [] (0, 16, 19, 13) [] hT rfl (fun z hz => absurd hz List.not_mem_nil) (by decide +kernel) (by decide) (by decide +kernel) (by decide +kernel) (fun a => ?_)
    refine gStk (st' := [.ref a]) (pc' := 19) rfl rfl ?_
    refine gAstoreN (pc := 19) hC (lv' := [(3, .ref a), (0, .ref (wx q)), (1, .int x), (2, .ref (wo q))]) dL_isInverse_19 rfl (by decide) rfl ?_
    refine gIconst (pc := 20) hC (v := (nI 1)) dL_isInverse_20 (by decide +kernel) ?_
    exact gRetIX hC hQ hr (Nat.le_of_ble_eq_true rfl) (Nat.le_of_ble_eq_true rfl) dL_isInverse_21 (⟨by rw [hK], σ1, f, rfl, Or.inr ⟨by rw [hK]; decide, h1⟩⟩)
  · skip
    obtain ⟨hK, rfl, σ1, rfl, h1⟩ := hp
    obtain ⟨v0, hv0⟩ : ∃ v0, v0 = (nI 1) := ⟨_, rfl⟩
    refine gStk (st' := [.int (nI 1), .int (nI 0), .ref (wo q)]) (pc' := 7) rfl rfl ?_
    rw [← hv0]
    refine gNl (pc := 7) hC dL_isInverse_7 dL_isInverse_10 dL_isInverse_11 dL_isInverse_14 ?_
    refine gStk (st' := [.long (bl v0), .int (nI 0), .ref (wo q)]) (pc' := 15) rfl rfl ?_
    refine gLast (pc := 15) (ws' := WC (LC q (vp_updL f 0 (bl v0)) g μ) σ1) hC 0 rfl (by decide) (by decide) 22 3 rfl rfl dL_isInverse_15 (wo_set ..) ?_
    refine gGoto (pc := 16) hC (tgt := 22) dL_isInverse_16 (by decide) ?_
    refine gIconst (pc := 22) hC (v := (nI 0)) dL_isInverse_22 (by decide +kernel) ?_
    exact gRetIX hC hQ hr (Nat.le_of_ble_eq_true rfl) (Nat.le_of_ble_eq_true rfl) dL_isInverse_23 (⟨by rw [hK], σ1, _, rfl, Or.inl ⟨hK, ⟨_, rfl, hv0⟩, h1⟩⟩)

abbrev rmL_isProduct : Room := { frames := 8, cells := 3, slots := 18, locals := 139 }
set_option maxRecDepth 100000 in
set_option maxHeartbeats 4000000 in
theorem c_L_isProduct (l : Launch) (D : va_G) (q : wLay) (σ : cSt) (μ : mSt) (f : Nat → Int64) (g : Nat → UInt64) (Δ : dSt) (x : Int32) (y : Int32) (hR : cRel σ Δ) : gX l yL_isProduct wsL_isProduct rmL_isProduct D (wTy q) (WC (LC q f g μ) σ) [.ref (wx q), .int x, .int y, .ref (wo q)] 3 18 (wPost q g μ Δ (Δ) (kk2 (okR x ∧ okR y) ((Δ.2.1 (rI x)) = (Δ.2.1 (rI y)))) (fun t : Int64 => ∃ v : Int32, t = bl v ∧ (fun b => b = nI 1) v)) (fun _ _ => False) := by
  refine gX.ofH (cc := cL_isProduct) (maxL := 5) (ret := (some .int)) (own := RL) (by decide) rfl rfl (Nat.le_of_ble_eq_true rfl) rfl ?_
  intro p e s m args below meth c A Q hC hr hQ hT hl9
  refine gAloadN (pc := 0) hC dL_isProduct_0 rfl 3 rfl ?_
  refine gIconst (pc := 1) hC (v := (nI 0)) dL_isProduct_1 (by decide +kernel) ?_
  refine gAloadN (pc := 2) hC dL_isProduct_2 rfl 0 rfl ?_
  refine gIloadN (pc := 3) hC dL_isProduct_3 rfl 1 rfl ?_
  refine gIloadN (pc := 4) hC dL_isProduct_4 rfl 2 rfl ?_
  refine gVH (pc := 5) (rest := [.int (nI 0), .ref (wo q)]) (ci := 1) (q0 := 0) hC hl9 (c_X1_isProduct l D (LC q f g μ) σ Δ x y hR) rfl rfl (cwV 2 hC.2.2.2.2.1 gL_isProduct_X1_isProduct rfl rfl rfl (by decide +kernel) ⟨Nat.le_of_ble_eq_true rfl, Nat.le_of_ble_eq_true rfl⟩) rfl rfl (Nat.le_of_ble_eq_true rfl) dL_isProduct_5 ⟨Nat.le_of_ble_eq_true rfl, Nat.le_of_ble_eq_true rfl⟩ (fun E w1 hx => ?_) (fun v w1 hp => ?_)
  · skip
    obtain ⟨σ1, rfl, h1, hE⟩ := hx
    rcases hE with ⟨rfl, hK⟩ | ⟨rfl, hK⟩
    · skip
      refine gHdN (pc := 5) hC [] (0, 17, 20, 13) [(0, 17, 24, 61)] hT rfl (fun z hz => absurd hz List.not_mem_nil) (by decide +kernel) (by decide) (by decide +kernel) (by decide +kernel) (fun a => ?_)
      refine gStk (st' := [.ref a]) (pc' := 20) rfl rfl ?_
      refine gAstore (pc := 20) hC (lv' := [(4, .ref a), (0, .ref (wx q)), (1, .int x), (2, .int y), (3, .ref (wo q))]) dL_isProduct_20 (by decide) rfl ?_
      refine gIconst (pc := 22) hC (v := (nI 1)) dL_isProduct_22 (by decide +kernel) ?_
      exact gRetIX hC hQ hr (Nat.le_of_ble_eq_true rfl) (Nat.le_of_ble_eq_true rfl) dL_isProduct_23 (⟨by rw [hK], σ1, f, rfl, Or.inr ⟨by rw [hK]; decide, h1⟩⟩)
    · skip
      refine gHdN (pc := 5) hC [(0, 17, 20, 13)] (0, 17, 24, 61) [] hT rfl (by intro z hz; simp only [List.mem_cons, List.not_mem_nil, or_false] at hz; subst hz; exact ⟨by decide, "java/lang/IndexOutOfBoundsException", (by decide +kernel), (by decide +kernel)⟩) (by decide +kernel) (by decide) (by decide +kernel) (by decide +kernel) (fun a => ?_)
      refine gStk (st' := [.ref a]) (pc' := 24) rfl rfl ?_
      refine gAstore (pc := 24) hC (lv' := [(4, .ref a), (0, .ref (wx q)), (1, .int x), (2, .int y), (3, .ref (wo q))]) dL_isProduct_24 (by decide) rfl ?_
      refine gIconst (pc := 26) hC (v := (nI 2)) dL_isProduct_26 (by decide +kernel) ?_
      exact gRetIX hC hQ hr (Nat.le_of_ble_eq_true rfl) (Nat.le_of_ble_eq_true rfl) dL_isProduct_27 (⟨by rw [hK], σ1, f, rfl, Or.inr ⟨by rw [hK]; decide, h1⟩⟩)
  · skip
    obtain ⟨hK, rfl, σ1, rfl, h1⟩ := hp
    obtain ⟨v0, hv0⟩ : ∃ v0, v0 = (nI 1) := ⟨_, rfl⟩
    refine gStk (st' := [.int (nI 1), .int (nI 0), .ref (wo q)]) (pc' := 8) rfl rfl ?_
    rw [← hv0]
    refine gNl (pc := 8) hC dL_isProduct_8 dL_isProduct_11 dL_isProduct_12 dL_isProduct_15 ?_
    refine gStk (st' := [.long (bl v0), .int (nI 0), .ref (wo q)]) (pc' := 16) rfl rfl ?_
    refine gLast (pc := 16) (ws' := WC (LC q (vp_updL f 0 (bl v0)) g μ) σ1) hC 0 rfl (by decide) (by decide) 22 3 rfl rfl dL_isProduct_16 (wo_set ..) ?_
    refine gGoto (pc := 17) hC (tgt := 28) dL_isProduct_17 (by decide) ?_
    refine gIconst (pc := 28) hC (v := (nI 0)) dL_isProduct_28 (by decide +kernel) ?_
    exact gRetIX hC hQ hr (Nat.le_of_ble_eq_true rfl) (Nat.le_of_ble_eq_true rfl) dL_isProduct_29 (⟨by rw [hK], σ1, _, rfl, Or.inl ⟨hK, ⟨_, rfl, hv0⟩, h1⟩⟩)

abbrev rmL_isPlain : Room := { frames := 8, cells := 4, slots := 24, locals := 127 }
set_option maxRecDepth 100000 in
set_option maxHeartbeats 4000000 in
theorem c_L_isPlain (l : Launch) (D : va_G) (q : wLay) (σ : cSt) (μ : mSt) (f : Nat → Int64) (g : Nat → UInt64) (Δ : dSt) (x : Int32) (y : Int32) (hR : cRel σ Δ) : gX l yL_isPlain wsL_isPlain rmL_isPlain D (wTy q) (WC (LC q f g μ) σ) [.ref (wx q), .int x, .int y, .ref (wo q)] 4 24 (wPost q g μ Δ (Δ) (kk2 (okR x ∧ okR y) ((Δ.2.1 (rI x)) = (Δ.2.1 (rI y)) ∧ (Δ.2.1 (rI x)) < 16)) (fun t : Int64 => ∃ v : Int32, t = bl v ∧ (fun b => b = nI 1) v)) (fun _ _ => False) := by
  refine gX.ofH (cc := cL_isPlain) (maxL := 5) (ret := (some .int)) (own := RL) (by decide) rfl rfl (Nat.le_of_ble_eq_true rfl) rfl ?_
  intro p e s m args below meth c A Q hC hr hQ hT hl9
  refine gAloadN (pc := 0) hC dL_isPlain_0 rfl 3 rfl ?_
  refine gIconst (pc := 1) hC (v := (nI 0)) dL_isPlain_1 (by decide +kernel) ?_
  refine gAloadN (pc := 2) hC dL_isPlain_2 rfl 0 rfl ?_
  refine gIloadN (pc := 3) hC dL_isPlain_3 rfl 1 rfl ?_
  refine gIloadN (pc := 4) hC dL_isPlain_4 rfl 2 rfl ?_
  refine gVH (pc := 5) (rest := [.int (nI 0), .ref (wo q)]) (ci := 1) (q0 := 0) hC hl9 (c_X1_isPlain l D (LC q f g μ) σ Δ x y hR) rfl rfl (cwV 2 hC.2.2.2.2.1 gL_isPlain_X1_isPlain rfl rfl rfl (by decide +kernel) ⟨Nat.le_of_ble_eq_true rfl, Nat.le_of_ble_eq_true rfl⟩) rfl rfl (Nat.le_of_ble_eq_true rfl) dL_isPlain_5 ⟨Nat.le_of_ble_eq_true rfl, Nat.le_of_ble_eq_true rfl⟩ (fun E w1 hx => ?_) (fun v w1 hp => ?_)
  · skip
    obtain ⟨σ1, rfl, h1, hE⟩ := hx
    rcases hE with ⟨rfl, hK⟩ | ⟨rfl, hK⟩
    · skip
      refine gHdN (pc := 5) hC [] (0, 17, 20, 13) [(0, 17, 24, 61)] hT rfl (fun z hz => absurd hz List.not_mem_nil) (by decide +kernel) (by decide) (by decide +kernel) (by decide +kernel) (fun a => ?_)
      refine gStk (st' := [.ref a]) (pc' := 20) rfl rfl ?_
      refine gAstore (pc := 20) hC (lv' := [(4, .ref a), (0, .ref (wx q)), (1, .int x), (2, .int y), (3, .ref (wo q))]) dL_isPlain_20 (by decide) rfl ?_
      refine gIconst (pc := 22) hC (v := (nI 1)) dL_isPlain_22 (by decide +kernel) ?_
      exact gRetIX hC hQ hr (Nat.le_of_ble_eq_true rfl) (Nat.le_of_ble_eq_true rfl) dL_isPlain_23 (⟨by rw [hK], σ1, f, rfl, Or.inr ⟨by rw [hK]; decide, h1⟩⟩)
    · skip
      refine gHdN (pc := 5) hC [(0, 17, 20, 13)] (0, 17, 24, 61) [] hT rfl (by intro z hz; simp only [List.mem_cons, List.not_mem_nil, or_false] at hz; subst hz; exact ⟨by decide, "java/lang/IndexOutOfBoundsException", (by decide +kernel), (by decide +kernel)⟩) (by decide +kernel) (by decide) (by decide +kernel) (by decide +kernel) (fun a => ?_)
      refine gStk (st' := [.ref a]) (pc' := 24) rfl rfl ?_
      refine gAstore (pc := 24) hC (lv' := [(4, .ref a), (0, .ref (wx q)), (1, .int x), (2, .int y), (3, .ref (wo q))]) dL_isPlain_24 (by decide) rfl ?_
      refine gIconst (pc := 26) hC (v := (nI 2)) dL_isPlain_26 (by decide +kernel) ?_
      exact gRetIX hC hQ hr (Nat.le_of_ble_eq_true rfl) (Nat.le_of_ble_eq_true rfl) dL_isPlain_27 (⟨by rw [hK], σ1, f, rfl, Or.inr ⟨by rw [hK]; decide, h1⟩⟩)
  · skip
    obtain ⟨hK, rfl, σ1, rfl, h1⟩ := hp
    obtain ⟨v0, hv0⟩ : ∃ v0, v0 = (nI 1) := ⟨_, rfl⟩
    refine gStk (st' := [.int (nI 1), .int (nI 0), .ref (wo q)]) (pc' := 8) rfl rfl ?_
    rw [← hv0]
    refine gNl (pc := 8) hC dL_isPlain_8 dL_isPlain_11 dL_isPlain_12 dL_isPlain_15 ?_
    refine gStk (st' := [.long (bl v0), .int (nI 0), .ref (wo q)]) (pc' := 16) rfl rfl ?_
    refine gLast (pc := 16) (ws' := WC (LC q (vp_updL f 0 (bl v0)) g μ) σ1) hC 0 rfl (by decide) (by decide) 22 3 rfl rfl dL_isPlain_16 (wo_set ..) ?_
    refine gGoto (pc := 17) hC (tgt := 28) dL_isPlain_17 (by decide) ?_
    refine gIconst (pc := 28) hC (v := (nI 0)) dL_isPlain_28 (by decide +kernel) ?_
    exact gRetIX hC hQ hr (Nat.le_of_ble_eq_true rfl) (Nat.le_of_ble_eq_true rfl) dL_isPlain_29 (⟨by rw [hK], σ1, _, rfl, Or.inl ⟨hK, ⟨_, rfl, hv0⟩, h1⟩⟩)

abbrev rmL_isShifted : Room := { frames := 8, cells := 1, slots := 6, locals := 138 }
set_option maxRecDepth 100000 in
set_option maxHeartbeats 4000000 in
theorem c_L_isShifted (l : Launch) (D : va_G) (q : wLay) (σ : cSt) (μ : mSt) (f : Nat → Int64) (g : Nat → UInt64) (Δ : dSt) (x : Int32) (y : Int32) (hR : cRel σ Δ) : gX l yL_isShifted wsL_isShifted rmL_isShifted D (wTy q) (WC (LC q f g μ) σ) [.ref (wx q), .int x, .int y, .ref (wo q)] 1 6 (wPost q g μ Δ (Δ) (kk1 (okR x)) (fun t : Int64 => ∃ v : Int32, t = bl v ∧ (fun b => b = nI 1) v)) (fun _ _ => False) := by
  refine gX.ofH (cc := cL_isShifted) (maxL := 5) (ret := (some .int)) (own := RL) (by decide) rfl rfl (Nat.le_of_ble_eq_true rfl) rfl ?_
  intro p e s m args below meth c A Q hC hr hQ hT hl9
  refine gAloadN (pc := 0) hC dL_isShifted_0 rfl 3 rfl ?_
  refine gIconst (pc := 1) hC (v := (nI 0)) dL_isShifted_1 (by decide +kernel) ?_
  refine gAloadN (pc := 2) hC dL_isShifted_2 rfl 0 rfl ?_
  refine gIloadN (pc := 3) hC dL_isShifted_3 rfl 1 rfl ?_
  refine gIloadN (pc := 4) hC dL_isShifted_4 rfl 2 rfl ?_
  refine gVH (pc := 5) (rest := [.int (nI 0), .ref (wo q)]) (ci := 1) (q0 := 0) hC hl9 (c_X1_isShifted l D (LC q f g μ) σ Δ x y hR) rfl rfl (cwV 2 hC.2.2.2.2.1 gL_isShifted_X1_isShifted rfl rfl rfl (by decide +kernel) ⟨Nat.le_of_ble_eq_true rfl, Nat.le_of_ble_eq_true rfl⟩) rfl rfl (Nat.le_of_ble_eq_true rfl) dL_isShifted_5 ⟨Nat.le_of_ble_eq_true rfl, Nat.le_of_ble_eq_true rfl⟩ (fun E w1 hx => ?_) (fun v w1 hp => ?_)
  · skip
    obtain ⟨σ1, rfl, h1, hE⟩ := hx
    obtain ⟨rfl, hK⟩ := hE
    refine gHdN (pc := 5) hC [] (0, 17, 20, 13) [] hT rfl (fun z hz => absurd hz List.not_mem_nil) (by decide +kernel) (by decide) (by decide +kernel) (by decide +kernel) (fun a => ?_)
    refine gStk (st' := [.ref a]) (pc' := 20) rfl rfl ?_
    refine gAstore (pc := 20) hC (lv' := [(4, .ref a), (0, .ref (wx q)), (1, .int x), (2, .int y), (3, .ref (wo q))]) dL_isShifted_20 (by decide) rfl ?_
    refine gIconst (pc := 22) hC (v := (nI 1)) dL_isShifted_22 (by decide +kernel) ?_
    exact gRetIX hC hQ hr (Nat.le_of_ble_eq_true rfl) (Nat.le_of_ble_eq_true rfl) dL_isShifted_23 (⟨by rw [hK], σ1, f, rfl, Or.inr ⟨by rw [hK]; decide, h1⟩⟩)
  · skip
    obtain ⟨hK, rfl, σ1, rfl, h1⟩ := hp
    obtain ⟨v0, hv0⟩ : ∃ v0, v0 = (nI 1) := ⟨_, rfl⟩
    refine gStk (st' := [.int (nI 1), .int (nI 0), .ref (wo q)]) (pc' := 8) rfl rfl ?_
    rw [← hv0]
    refine gNl (pc := 8) hC dL_isShifted_8 dL_isShifted_11 dL_isShifted_12 dL_isShifted_15 ?_
    refine gStk (st' := [.long (bl v0), .int (nI 0), .ref (wo q)]) (pc' := 16) rfl rfl ?_
    refine gLast (pc := 16) (ws' := WC (LC q (vp_updL f 0 (bl v0)) g μ) σ1) hC 0 rfl (by decide) (by decide) 22 3 rfl rfl dL_isShifted_16 (wo_set ..) ?_
    refine gGoto (pc := 17) hC (tgt := 24) dL_isShifted_17 (by decide) ?_
    refine gIconst (pc := 24) hC (v := (nI 0)) dL_isShifted_24 (by decide +kernel) ?_
    exact gRetIX hC hQ hr (Nat.le_of_ble_eq_true rfl) (Nat.le_of_ble_eq_true rfl) dL_isShifted_25 (⟨by rw [hK], σ1, _, rfl, Or.inl ⟨hK, ⟨_, rfl, hv0⟩, h1⟩⟩)

abbrev rmL_isSum : Room := { frames := 8, cells := 4, slots := 24, locals := 140 }
set_option maxRecDepth 100000 in
set_option maxHeartbeats 4000000 in
theorem c_L_isSum (l : Launch) (D : va_G) (q : wLay) (σ : cSt) (μ : mSt) (f : Nat → Int64) (g : Nat → UInt64) (Δ : dSt) (x : Int32) (y : Int32) (z : Int32) (hR : cRel σ Δ) : gX l yL_isSum wsL_isSum rmL_isSum D (wTy q) (WC (LC q f g μ) σ) [.ref (wx q), .int x, .int y, .int z, .ref (wo q)] 4 24 (wPost q g μ Δ (Δ) (kk3 (okR x ∧ okR y) (okNum z) ((Δ.2.1 (rI x)) = (Δ.2.1 (rI y)))) (fun t : Int64 => ∃ v : Int32, t = bl v ∧ (fun b => b = nI 1) v)) (fun _ _ => False) := by
  refine gX.ofH (cc := cL_isSum) (maxL := 6) (ret := (some .int)) (own := RL) (by decide) rfl rfl (Nat.le_of_ble_eq_true rfl) rfl ?_
  intro p e s m args below meth c A Q hC hr hQ hT hl9
  refine gAload (pc := 0) hC dL_isSum_0 4 rfl ?_
  refine gIconst (pc := 2) hC (v := (nI 0)) dL_isSum_2 (by decide +kernel) ?_
  refine gAloadN (pc := 3) hC dL_isSum_3 rfl 0 rfl ?_
  refine gIloadN (pc := 4) hC dL_isSum_4 rfl 1 rfl ?_
  refine gIloadN (pc := 5) hC dL_isSum_5 rfl 2 rfl ?_
  refine gIloadN (pc := 6) hC dL_isSum_6 rfl 3 rfl ?_
  refine gVH (pc := 7) (rest := [.int (nI 0), .ref (wo q)]) (ci := 1) (q0 := 0) hC hl9 (c_X1_isSum l D (LC q f g μ) σ Δ x y z hR) rfl rfl (cwV 3 hC.2.2.2.2.1 gL_isSum_X1_isSum rfl rfl rfl (by decide +kernel) ⟨Nat.le_of_ble_eq_true rfl, Nat.le_of_ble_eq_true rfl⟩) rfl rfl (Nat.le_of_ble_eq_true rfl) dL_isSum_7 ⟨Nat.le_of_ble_eq_true rfl, Nat.le_of_ble_eq_true rfl⟩ (fun E w1 hx => ?_) (fun v w1 hp => ?_)
  · skip
    obtain ⟨σ1, rfl, h1, hE⟩ := hx
    rcases hE with ⟨rfl, hK⟩ | ⟨rfl, hK⟩ | ⟨rfl, hK⟩
    · skip
      refine gHdN (pc := 7) hC [] (0, 19, 22, 13) [(0, 19, 26, 15), (0, 19, 30, 61)] hT rfl (fun z hz => absurd hz List.not_mem_nil) (by decide +kernel) (by decide) (by decide +kernel) (by decide +kernel) (fun a => ?_)
      refine gStk (st' := [.ref a]) (pc' := 22) rfl rfl ?_
      refine gAstore (pc := 22) hC (lv' := [(5, .ref a), (0, .ref (wx q)), (1, .int x), (2, .int y), (3, .int z), (4, .ref (wo q))]) dL_isSum_22 (by decide) rfl ?_
      refine gIconst (pc := 24) hC (v := (nI 1)) dL_isSum_24 (by decide +kernel) ?_
      exact gRetIX hC hQ hr (Nat.le_of_ble_eq_true rfl) (Nat.le_of_ble_eq_true rfl) dL_isSum_25 (⟨by rw [hK], σ1, f, rfl, Or.inr ⟨by rw [hK]; decide, h1⟩⟩)
    · skip
      refine gHdN (pc := 7) hC [(0, 19, 22, 13)] (0, 19, 26, 15) [(0, 19, 30, 61)] hT rfl (by intro z hz; simp only [List.mem_cons, List.not_mem_nil, or_false] at hz; subst hz; exact ⟨by decide, "java/lang/IndexOutOfBoundsException", (by decide +kernel), (by decide +kernel)⟩) (by decide +kernel) (by decide) (by decide +kernel) (by decide +kernel) (fun a => ?_)
      refine gStk (st' := [.ref a]) (pc' := 26) rfl rfl ?_
      refine gAstore (pc := 26) hC (lv' := [(5, .ref a), (0, .ref (wx q)), (1, .int x), (2, .int y), (3, .int z), (4, .ref (wo q))]) dL_isSum_26 (by decide) rfl ?_
      refine gIconst (pc := 28) hC (v := (nI 2)) dL_isSum_28 (by decide +kernel) ?_
      exact gRetIX hC hQ hr (Nat.le_of_ble_eq_true rfl) (Nat.le_of_ble_eq_true rfl) dL_isSum_29 (⟨by rw [hK], σ1, f, rfl, Or.inr ⟨by rw [hK]; decide, h1⟩⟩)
    · skip
      refine gHdN (pc := 7) hC [(0, 19, 22, 13), (0, 19, 26, 15)] (0, 19, 30, 61) [] hT rfl (by intro z hz; simp only [List.mem_cons, List.not_mem_nil, or_false] at hz; rcases hz with rfl | rfl <;> first | exact ⟨by decide, "java/lang/IndexOutOfBoundsException", (by decide +kernel), (by decide +kernel)⟩ | exact ⟨by decide, "java/lang/IllegalArgumentException", (by decide +kernel), (by decide +kernel)⟩) (by decide +kernel) (by decide) (by decide +kernel) (by decide +kernel) (fun a => ?_)
      refine gStk (st' := [.ref a]) (pc' := 30) rfl rfl ?_
      refine gAstore (pc := 30) hC (lv' := [(5, .ref a), (0, .ref (wx q)), (1, .int x), (2, .int y), (3, .int z), (4, .ref (wo q))]) dL_isSum_30 (by decide) rfl ?_
      refine gIconst (pc := 32) hC (v := (nI 3)) dL_isSum_32 (by decide +kernel) ?_
      exact gRetIX hC hQ hr (Nat.le_of_ble_eq_true rfl) (Nat.le_of_ble_eq_true rfl) dL_isSum_33 (⟨by rw [hK], σ1, f, rfl, Or.inr ⟨by rw [hK]; decide, h1⟩⟩)
  · skip
    obtain ⟨hK, rfl, σ1, rfl, h1⟩ := hp
    obtain ⟨v0, hv0⟩ : ∃ v0, v0 = (nI 1) := ⟨_, rfl⟩
    refine gStk (st' := [.int (nI 1), .int (nI 0), .ref (wo q)]) (pc' := 10) rfl rfl ?_
    rw [← hv0]
    refine gNl (pc := 10) hC dL_isSum_10 dL_isSum_13 dL_isSum_14 dL_isSum_17 ?_
    refine gStk (st' := [.long (bl v0), .int (nI 0), .ref (wo q)]) (pc' := 18) rfl rfl ?_
    refine gLast (pc := 18) (ws' := WC (LC q (vp_updL f 0 (bl v0)) g μ) σ1) hC 0 rfl (by decide) (by decide) 22 3 rfl rfl dL_isSum_18 (wo_set ..) ?_
    refine gGoto (pc := 19) hC (tgt := 34) dL_isSum_19 (by decide) ?_
    refine gIconst (pc := 34) hC (v := (nI 0)) dL_isSum_34 (by decide +kernel) ?_
    exact gRetIX hC hQ hr (Nat.le_of_ble_eq_true rfl) (Nat.le_of_ble_eq_true rfl) dL_isSum_35 (⟨by rw [hK], σ1, _, rfl, Or.inl ⟨hK, ⟨_, rfl, hv0⟩, h1⟩⟩)

abbrev rmL_isAgain : Room := { frames := 8, cells := 2, slots := 12, locals := 138 }
set_option maxRecDepth 100000 in
set_option maxHeartbeats 4000000 in
theorem c_L_isAgain (l : Launch) (D : va_G) (q : wLay) (σ : cSt) (μ : mSt) (f : Nat → Int64) (g : Nat → UInt64) (Δ : dSt) (x : Int32) (y : Int32) (hR : cRel σ Δ) : gX l yL_isAgain wsL_isAgain rmL_isAgain D (wTy q) (WC (LC q f g μ) σ) [.ref (wx q), .int x, .int y, .ref (wo q)] 2 12 (wPost q g μ Δ (Δ) (kk2 (okR x) (okD y ∧ ¬ nI (Δ.2.1 (rI x)) < y)) (fun t : Int64 => ∃ v : Int32, t = bl v ∧ (fun b => b = nI 1) v)) (fun _ _ => False) := by
  refine gX.ofH (cc := cL_isAgain) (maxL := 5) (ret := (some .int)) (own := RL) (by decide) rfl rfl (Nat.le_of_ble_eq_true rfl) rfl ?_
  intro p e s m args below meth c A Q hC hr hQ hT hl9
  refine gAloadN (pc := 0) hC dL_isAgain_0 rfl 3 rfl ?_
  refine gIconst (pc := 1) hC (v := (nI 0)) dL_isAgain_1 (by decide +kernel) ?_
  refine gAloadN (pc := 2) hC dL_isAgain_2 rfl 0 rfl ?_
  refine gIloadN (pc := 3) hC dL_isAgain_3 rfl 1 rfl ?_
  refine gIloadN (pc := 4) hC dL_isAgain_4 rfl 2 rfl ?_
  refine gVH (pc := 5) (rest := [.int (nI 0), .ref (wo q)]) (ci := 1) (q0 := 0) hC hl9 (c_X1_isAgain l D (LC q f g μ) σ Δ x y hR) rfl rfl (cwV 2 hC.2.2.2.2.1 gL_isAgain_X1_isAgain rfl rfl rfl (by decide +kernel) ⟨Nat.le_of_ble_eq_true rfl, Nat.le_of_ble_eq_true rfl⟩) rfl rfl (Nat.le_of_ble_eq_true rfl) dL_isAgain_5 ⟨Nat.le_of_ble_eq_true rfl, Nat.le_of_ble_eq_true rfl⟩ (fun E w1 hx => ?_) (fun v w1 hp => ?_)
  · skip
    obtain ⟨σ1, rfl, h1, hE⟩ := hx
    rcases hE with ⟨rfl, hK⟩ | ⟨rfl, hK⟩
    · skip
      refine gHdN (pc := 5) hC [] (0, 17, 20, 13) [(0, 17, 24, 15)] hT rfl (fun z hz => absurd hz List.not_mem_nil) (by decide +kernel) (by decide) (by decide +kernel) (by decide +kernel) (fun a => ?_)
      refine gStk (st' := [.ref a]) (pc' := 20) rfl rfl ?_
      refine gAstore (pc := 20) hC (lv' := [(4, .ref a), (0, .ref (wx q)), (1, .int x), (2, .int y), (3, .ref (wo q))]) dL_isAgain_20 (by decide) rfl ?_
      refine gIconst (pc := 22) hC (v := (nI 1)) dL_isAgain_22 (by decide +kernel) ?_
      exact gRetIX hC hQ hr (Nat.le_of_ble_eq_true rfl) (Nat.le_of_ble_eq_true rfl) dL_isAgain_23 (⟨by rw [hK], σ1, f, rfl, Or.inr ⟨by rw [hK]; decide, h1⟩⟩)
    · skip
      refine gHdN (pc := 5) hC [(0, 17, 20, 13)] (0, 17, 24, 15) [] hT rfl (by intro z hz; simp only [List.mem_cons, List.not_mem_nil, or_false] at hz; subst hz; exact ⟨by decide, "java/lang/IndexOutOfBoundsException", (by decide +kernel), (by decide +kernel)⟩) (by decide +kernel) (by decide) (by decide +kernel) (by decide +kernel) (fun a => ?_)
      refine gStk (st' := [.ref a]) (pc' := 24) rfl rfl ?_
      refine gAstore (pc := 24) hC (lv' := [(4, .ref a), (0, .ref (wx q)), (1, .int x), (2, .int y), (3, .ref (wo q))]) dL_isAgain_24 (by decide) rfl ?_
      refine gIconst (pc := 26) hC (v := (nI 2)) dL_isAgain_26 (by decide +kernel) ?_
      exact gRetIX hC hQ hr (Nat.le_of_ble_eq_true rfl) (Nat.le_of_ble_eq_true rfl) dL_isAgain_27 (⟨by rw [hK], σ1, f, rfl, Or.inr ⟨by rw [hK]; decide, h1⟩⟩)
  · skip
    obtain ⟨hK, rfl, σ1, rfl, h1⟩ := hp
    obtain ⟨v0, hv0⟩ : ∃ v0, v0 = (nI 1) := ⟨_, rfl⟩
    refine gStk (st' := [.int (nI 1), .int (nI 0), .ref (wo q)]) (pc' := 8) rfl rfl ?_
    rw [← hv0]
    refine gNl (pc := 8) hC dL_isAgain_8 dL_isAgain_11 dL_isAgain_12 dL_isAgain_15 ?_
    refine gStk (st' := [.long (bl v0), .int (nI 0), .ref (wo q)]) (pc' := 16) rfl rfl ?_
    refine gLast (pc := 16) (ws' := WC (LC q (vp_updL f 0 (bl v0)) g μ) σ1) hC 0 rfl (by decide) (by decide) 22 3 rfl rfl dL_isAgain_16 (wo_set ..) ?_
    refine gGoto (pc := 17) hC (tgt := 28) dL_isAgain_17 (by decide) ?_
    refine gIconst (pc := 28) hC (v := (nI 0)) dL_isAgain_28 (by decide +kernel) ?_
    exact gRetIX hC hQ hr (Nat.le_of_ble_eq_true rfl) (Nat.le_of_ble_eq_true rfl) dL_isAgain_29 (⟨by rw [hK], σ1, _, rfl, Or.inl ⟨hK, ⟨_, rfl, hv0⟩, h1⟩⟩)

abbrev rmL_mean : Room := { frames := 8, cells := 1, slots := 6, locals := 127 }
set_option maxRecDepth 100000 in
set_option maxHeartbeats 4000000 in
theorem c_L_mean (l : Launch) (D : va_G) (q : wLay) (σ : cSt) (μ : mSt) (f : Nat → Int64) (g : Nat → UInt64) (Δ : dSt) (x : Int32) (hR : cRel σ Δ) : gX l yL_mean wsL_mean rmL_mean D (wTy q) (WC (LC q f g μ) σ) [.ref (wx q), .int x, .ref (wd q)] 1 6 (wPostD q f μ Δ (Δ) (kk1 (okR x)) (fun t : UInt64 => (fun b => b = meanV (Δ.2.1 (rI x)) (Δ.2.2 (rI x))) t ∧ Jvm.FP.Core.dIsNaN t = false)) (fun _ _ => False) := by
  refine gX.ofH (cc := cL_mean) (maxL := 4) (ret := (some .int)) (own := RL) (by decide) rfl rfl (Nat.le_of_ble_eq_true rfl) rfl ?_
  intro p e s m args below meth c A Q hC hr hQ hT hl9
  refine gAloadN (pc := 0) hC dL_mean_0 rfl 2 rfl ?_
  refine gIconst (pc := 1) hC (v := (nI 0)) dL_mean_1 (by decide +kernel) ?_
  refine gAloadN (pc := 2) hC dL_mean_2 rfl 0 rfl ?_
  refine gIloadN (pc := 3) hC dL_mean_3 rfl 1 rfl ?_
  refine gVH (pc := 4) (rest := [.int (nI 0), .ref (wd q)]) (ci := 1) (q0 := 0) hC hl9 (c_X1_mean l D (LC q f g μ) σ Δ x hR) rfl rfl (cwV 1 hC.2.2.2.2.1 gL_mean_X1_mean rfl rfl rfl (by decide +kernel) ⟨Nat.le_of_ble_eq_true rfl, Nat.le_of_ble_eq_true rfl⟩) rfl rfl (Nat.le_of_ble_eq_true rfl) dL_mean_4 ⟨Nat.le_of_ble_eq_true rfl, Nat.le_of_ble_eq_true rfl⟩ (fun E w1 hx => ?_) (fun v w1 hp => ?_)
  · skip
    obtain ⟨σ1, rfl, h1, hE⟩ := hx
    obtain ⟨rfl, hK⟩ := hE
    refine gHdN (pc := 4) hC [] (0, 8, 11, 13) [] hT rfl (fun z hz => absurd hz List.not_mem_nil) (by decide +kernel) (by decide) (by decide +kernel) (by decide +kernel) (fun a => ?_)
    refine gStk (st' := [.ref a]) (pc' := 11) rfl rfl ?_
    refine gAstoreN (pc := 11) hC (lv' := [(3, .ref a), (0, .ref (wx q)), (1, .int x), (2, .ref (wd q))]) dL_mean_11 rfl (by decide) rfl ?_
    refine gIconst (pc := 12) hC (v := (nI 1)) dL_mean_12 (by decide +kernel) ?_
    exact gRetIX hC hQ hr (Nat.le_of_ble_eq_true rfl) (Nat.le_of_ble_eq_true rfl) dL_mean_13 (⟨by rw [hK], σ1, g, rfl, Or.inr ⟨by rw [hK]; decide, h1⟩⟩)
  · skip
    obtain ⟨hK, rfl, σ1, rfl, h1⟩ := hp
    obtain ⟨v0, hv0⟩ : ∃ v0, v0 = (meanV (Δ.2.1 (rI x)) (Δ.2.2 (rI x))) := ⟨_, rfl⟩
    refine gStk (st' := [.double (meanV (Δ.2.1 (rI x)) (Δ.2.2 (rI x))), .int (nI 0), .ref (wd q)]) (pc' := 7) rfl rfl ?_
    rw [← hv0]
    have hz0 := fp_mean0 (nI (sumN (Δ.2.1 (rI x)) (Δ.2.2 (rI x)))) (hR.2.2 _ (okR.get (okR_of0 hK)).1).1
    have hz1 : Jvm.FP.Core.dIsNaN v0 = false := by rw [hv0]; exact hz0
    refine gDast (pc := 7) (ws' := WC (LC q f (vf_upd g 0 v0) μ) σ1) hC 0 rfl (by decide) (by decide) 23 4 rfl rfl dL_mean_7 (wd_set ..) ?_
    refine gGoto (pc := 8) hC (tgt := 14) dL_mean_8 (by decide) ?_
    refine gIconst (pc := 14) hC (v := (nI 0)) dL_mean_14 (by decide +kernel) ?_
    exact gRetIX hC hQ hr (Nat.le_of_ble_eq_true rfl) (Nat.le_of_ble_eq_true rfl) dL_mean_15 (⟨by rw [hK], σ1, _, rfl, Or.inl ⟨hK, ⟨hv0, hz1⟩, h1⟩⟩)

abbrev rmL_zeros : Room := { frames := 8, cells := 1, slots := 6, locals := 125 }
set_option maxRecDepth 100000 in
set_option maxHeartbeats 4000000 in
theorem c_L_zeros (l : Launch) (D : va_G) (q : wLay) (σ : cSt) (μ : mSt) (f : Nat → Int64) (g : Nat → UInt64) (Δ : dSt) (x : Int32) (hR : cRel σ Δ) : gX l yL_zeros wsL_zeros rmL_zeros D (wTy q) (WC (LC q f g μ) σ) [.ref (wx q), .int x, .ref (wd q)] 1 6 (wPostD q f μ Δ (Δ) (kk1 (okR x)) (fun t : UInt64 => ∃ v : UInt32, t = FP.f2d v ∧ (fun b => b = zerosV (Δ.2.1 (rI x)) (Δ.2.2 (rI x))) v ∧ Jvm.FP.Core.dIsNaN t = false)) (fun _ _ => False) := by
  refine gX.ofH (cc := cL_zeros) (maxL := 4) (ret := (some .int)) (own := RL) (by decide) rfl rfl (Nat.le_of_ble_eq_true rfl) rfl ?_
  intro p e s m args below meth c A Q hC hr hQ hT hl9
  refine gAloadN (pc := 0) hC dL_zeros_0 rfl 2 rfl ?_
  refine gIconst (pc := 1) hC (v := (nI 0)) dL_zeros_1 (by decide +kernel) ?_
  refine gAloadN (pc := 2) hC dL_zeros_2 rfl 0 rfl ?_
  refine gIloadN (pc := 3) hC dL_zeros_3 rfl 1 rfl ?_
  refine gVH (pc := 4) (rest := [.int (nI 0), .ref (wd q)]) (ci := 1) (q0 := 0) hC hl9 (c_X1_zeros l D (LC q f g μ) σ Δ x hR) rfl rfl (cwV 1 hC.2.2.2.2.1 gL_zeros_X1_zeros rfl rfl rfl (by decide +kernel) ⟨Nat.le_of_ble_eq_true rfl, Nat.le_of_ble_eq_true rfl⟩) rfl rfl (Nat.le_of_ble_eq_true rfl) dL_zeros_4 ⟨Nat.le_of_ble_eq_true rfl, Nat.le_of_ble_eq_true rfl⟩ (fun E w1 hx => ?_) (fun v w1 hp => ?_)
  · skip
    obtain ⟨σ1, rfl, h1, hE⟩ := hx
    obtain ⟨rfl, hK⟩ := hE
    refine gHdN (pc := 4) hC [] (0, 9, 12, 13) [] hT rfl (fun z hz => absurd hz List.not_mem_nil) (by decide +kernel) (by decide) (by decide +kernel) (by decide +kernel) (fun a => ?_)
    refine gStk (st' := [.ref a]) (pc' := 12) rfl rfl ?_
    refine gAstoreN (pc := 12) hC (lv' := [(3, .ref a), (0, .ref (wx q)), (1, .int x), (2, .ref (wd q))]) dL_zeros_12 rfl (by decide) rfl ?_
    refine gIconst (pc := 13) hC (v := (nI 1)) dL_zeros_13 (by decide +kernel) ?_
    exact gRetIX hC hQ hr (Nat.le_of_ble_eq_true rfl) (Nat.le_of_ble_eq_true rfl) dL_zeros_14 (⟨by rw [hK], σ1, g, rfl, Or.inr ⟨by rw [hK]; decide, h1⟩⟩)
  · skip
    obtain ⟨hK, rfl, σ1, rfl, h1⟩ := hp
    obtain ⟨v0, hv0⟩ : ∃ v0, v0 = (zerosV (Δ.2.1 (rI x)) (Δ.2.2 (rI x))) := ⟨_, rfl⟩
    refine gStk (st' := [.float (zerosV (Δ.2.1 (rI x)) (Δ.2.2 (rI x))), .int (nI 0), .ref (wd q)]) (pc' := 7) rfl rfl ?_
    rw [← hv0]
    have hz0 := fp_zeros0 (nI (cz (Δ.2.2 (rI x)) (Δ.2.1 (rI x)))) (hR.2.2 _ (okR.get (okR_of0 hK)).1).1
    have hz1 : Jvm.FP.Core.dIsNaN (FP.f2d v0) = false := by rw [hv0]; exact fp_f2d hz0
    refine gF2d (pc := 7) hC dL_zeros_7 (fp_n64 hz1) ?_
    refine gDast (pc := 8) (ws' := WC (LC q f (vf_upd g 0 (FP.f2d v0)) μ) σ1) hC 0 rfl (by decide) (by decide) 23 4 rfl rfl dL_zeros_8 (wd_set ..) ?_
    refine gGoto (pc := 9) hC (tgt := 15) dL_zeros_9 (by decide) ?_
    refine gIconst (pc := 15) hC (v := (nI 0)) dL_zeros_15 (by decide +kernel) ?_
    exact gRetIX hC hQ hr (Nat.le_of_ble_eq_true rfl) (Nat.le_of_ble_eq_true rfl) dL_zeros_16 (⟨by rw [hK], σ1, _, rfl, Or.inl ⟨hK, ⟨_, rfl, hv0, hz1⟩, h1⟩⟩)
