abbrev rmX1_added : Room := { frames := 0, cells := 0, slots := 0, locals := 0 }
set_option maxRecDepth 100000 in
set_option maxHeartbeats 4000000 in
theorem c_X1_added (l : Launch) (D : va_G) (tys : List (ClassId × FieldType)) (ws : va_W) (a b : Int32) (u v : Rg) (ha : a = nI u.val) (hb : b = nI v.val) : gM l yX1_added wsX1_added rmX1_added D tys ws [.int a, .int b] 0 0 (fun r w => r = some (.int (nI (u + v).val)) ∧ w = ws) := by
  refine gM.of (cc := cX1_added) (maxL := 2) (ret := (some .int)) (own := RX1) (by decide) rfl rfl (Nat.le_of_ble_eq_true rfl) rfl ?_
  intro p e s m args below meth c A Q hC hr hnm hQ
  refine gIloadN (pc := 0) hC dX1_added_0 rfl 0 rfl ?_
  refine gIloadN (pc := 1) hC dX1_added_1 rfl 1 rfl ?_
  refine gIadd (pc := 2) hC dX1_added_2 rfl ?_
  refine gLdc (pc := 3) hC (v := 65537) dX1_added_3 (by decide +kernel) ?_
  refine gIrem (pc := 5) hC (v := (nI (u + v).val)) dX1_added_5 (by decide) (j_add u v ha hb) ?_
  exact gRetI hC hQ hr (Nat.le_of_ble_eq_true rfl) (Nat.le_of_ble_eq_true rfl) dX1_added_6 (⟨rfl, rfl⟩)

abbrev rmX1_lessened : Room := { frames := 0, cells := 0, slots := 0, locals := 0 }
set_option maxRecDepth 100000 in
set_option maxHeartbeats 4000000 in
theorem c_X1_lessened (l : Launch) (D : va_G) (tys : List (ClassId × FieldType)) (ws : va_W) (a b : Int32) (u v : Rg) (ha : a = nI u.val) (hb : b = nI v.val) : gM l yX1_lessened wsX1_lessened rmX1_lessened D tys ws [.int a, .int b] 0 0 (fun r w => r = some (.int (nI (u - v).val)) ∧ w = ws) := by
  refine gM.of (cc := cX1_lessened) (maxL := 2) (ret := (some .int)) (own := RX1) (by decide) rfl rfl (Nat.le_of_ble_eq_true rfl) rfl ?_
  intro p e s m args below meth c A Q hC hr hnm hQ
  refine gIloadN (pc := 0) hC dX1_lessened_0 rfl 0 rfl ?_
  refine gLdc (pc := 1) hC (v := 65537) dX1_lessened_1 (by decide +kernel) ?_
  refine gIadd (pc := 3) hC dX1_lessened_3 rfl ?_
  refine gIloadN (pc := 4) hC dX1_lessened_4 rfl 1 rfl ?_
  refine gIsub (pc := 5) hC dX1_lessened_5 rfl ?_
  refine gLdc (pc := 6) hC (v := 65537) dX1_lessened_6 (by decide +kernel) ?_
  refine gIrem (pc := 8) hC (v := (nI (u - v).val)) dX1_lessened_8 (by decide) (j_sub u v ha hb) ?_
  exact gRetI hC hQ hr (Nat.le_of_ble_eq_true rfl) (Nat.le_of_ble_eq_true rfl) dX1_lessened_9 (⟨rfl, rfl⟩)

abbrev rmX1_reduced : Room := { frames := 0, cells := 0, slots := 0, locals := 0 }
set_option maxRecDepth 100000 in
set_option maxHeartbeats 4000000 in
theorem c_X1_reduced (l : Launch) (D : va_G) (tys : List (ClassId × FieldType)) (ws : va_W) (a : Int64) (t : Nat) (ha : a = lN t) (ht : t < 2 ^ 63) : gM l yX1_reduced wsX1_reduced rmX1_reduced D tys ws [.long a] 0 0 (fun r w => r = some (.int (nI (t % 65537))) ∧ w = ws) := by
  refine gM.of (cc := cX1_reduced) (maxL := 2) (ret := (some .int)) (own := RX1) (by decide) rfl rfl (Nat.le_of_ble_eq_true rfl) rfl ?_
  intro p e s m args below meth c A Q hC hr hnm hQ
  refine gLloadN (pc := 0) hC dX1_reduced_0 rfl 0 rfl ?_
  refine gLdc2 (pc := 1) hC (v := 65537) dX1_reduced_1 (by decide +kernel) ?_
  refine gLrem (pc := 4) hC dX1_reduced_4 (by decide) rfl ?_
  refine gL2i (pc := 5) hC (v := (nI (t % 65537))) dX1_reduced_5 (by rw [ha]; exact j_red ht) ?_
  exact gRetI hC hQ hr (Nat.le_of_ble_eq_true rfl) (Nat.le_of_ble_eq_true rfl) dX1_reduced_6 (⟨rfl, rfl⟩)

abbrev rmX1_multiplied : Room := { frames := 1, cells := 0, slots := 0, locals := 21 }
set_option maxRecDepth 100000 in
set_option maxHeartbeats 4000000 in
theorem c_X1_multiplied (l : Launch) (D : va_G) (tys : List (ClassId × FieldType)) (ws : va_W) (a b : Int32) (u v : Rg) (ha : a = nI u.val) (hb : b = nI v.val) : gM l yX1_multiplied wsX1_multiplied rmX1_multiplied D tys ws [.int a, .int b] 0 0 (fun r w => r = some (.int (nI (u * v).val)) ∧ w = ws) := by
  refine gM.of (cc := cX1_multiplied) (maxL := 2) (ret := (some .int)) (own := RX1) (by decide) rfl rfl (Nat.le_of_ble_eq_true rfl) rfl ?_
  intro p e s m args below meth c A Q hC hr hnm hQ
  refine gIloadN (pc := 0) hC dX1_multiplied_0 rfl 0 rfl ?_
  refine gI2l (pc := 1) hC dX1_multiplied_1 rfl ?_
  refine gIloadN (pc := 2) hC dX1_multiplied_2 rfl 1 rfl ?_
  refine gI2l (pc := 3) hC dX1_multiplied_3 rfl ?_
  refine gLmul (pc := 4) hC (v := (lN (u.val * v.val))) dX1_multiplied_4 (j_mul u v ha hb) ?_
  refine gS (pc := 5) (rest := []) hC (c_X1_reduced l D _ _ _ _ rfl (Nat.lt_trans (j_mulLt u v) (by decide))) (va_cwS 1 hC.2.2.2.2.1 gX1_multiplied_X1_reduced rfl rfl rfl (by decide +kernel) ⟨Nat.le_of_ble_eq_true rfl, Nat.le_of_ble_eq_true rfl⟩) rfl rfl (Nat.le_of_ble_eq_true rfl) dX1_multiplied_5 ⟨Nat.le_of_ble_eq_true rfl, Nat.le_of_ble_eq_true rfl⟩ (fun v w1 hp => ?_)
  obtain ⟨rfl, rfl⟩ := hp
  refine gStk (st' := [.int (nI (u.val * v.val % 65537))]) (pc' := 8) rfl rfl ?_
  exact gRetI hC hQ hr (Nat.le_of_ble_eq_true rfl) (Nat.le_of_ble_eq_true rfl) dX1_multiplied_8 (⟨rfl, rfl⟩)
