theorem ap_get {α : Type} (X Y : List α) (j : Nat) {y : α} (h : Y[j]? = some y) : (X ++ Y)[X.length + j]? = some y := by rw [List.getElem?_append_right (Nat.le_add_right _ _), Nat.add_sub_cancel_left]; exact h
theorem ap_set {α : Type} (X Y : List α) (j : Nat) (y : α) : (X ++ Y).set (X.length + j) y = X ++ Y.set j y := by
  rw [List.set_append_right _ _ (Nat.le_add_right _ _), Nat.add_sub_cancel_left]
theorem ra_arr {s : State} {cA : ClassId} (h : va_RA s cA .int) : s.vm.findClass (FieldType.array .int).toString = some cA := h
section GMN
variable {p : Program} {l : Launch} {e : Env} {R : Room} {s : State} {m : MethodId} {args : Array Value} {below : List Frame} {meth : Method} {c : Code}
variable {cc : ByteArray} {nL k n pc : Nat} {own : String} {Ts : List Cond} {D : va_G} {tys : List (ClassId × FieldType)} {A : Nat → Prop} {Q : State → Prop} {ws : va_W} {lv : List (Nat × Value)} {st rest : List Value}
theorem gMna (hC : gC p s m args meth c cc nL own Ts D tys A) {i tI tJ : Nat} {cI cJ : ClassId} (hcl : Cond.classLink own i "[[I" ∈ Ts) (harr : Cond.arrayClass .int ∈ Ts) (hI : tys[tI]? = some (cI, .int)) (hJ : tys[tJ]? = some (cJ, .array .int)) (hcells : k + (1 + 4) ≤ R.cells) (hslots : n + (4 + 4 * 16) ≤ R.slots) (d : decode cc pc = .ok (.multianewarray i 2, 4))
    (kk : ∀ (q : Nat) (r : Nat → Nat), gG p l e R s m args below meth c D A nL (k + 1 + 4) (n + 4 + 4 * 16) Q (ws ++ [(q, .inl (cJ, 4, .inr (.inr (.inr (.inr (fun i => if i < 4 then some (r i) else none)))))), (r 0, .inl (cI, 16, .inl (fun _ => 0))), (r 1, .inl (cI, 16, .inl (fun _ => 0))), (r 2, .inl (cI, 16, .inl (fun _ => 0))), (r 3, .inl (cI, 16, .inl (fun _ => 0)))]) (pc + 4) lv (.ref q :: st)) : gG p l e R s m args below meth c D A nL k n Q ws pc lv (.int (nI 16) :: .int (nI 4) :: st) :=
  fun H locs ls hP hD hS hlv => va_mna (X := ws) (L := []) (f := fun _ => .inr (0, [])) (ty := .int) (cy := cI) (N' := 4) (K' := 16) (z := (16, .inl (fun _ => 0))) hC.1 hC.2.1 hC.2.2.2.1 (hC.2.2.2.2.1 _ hcl) hC.2.2.2.2.2.2.2.1.2.2.2.1 (hC.2.2.2.2.1 _ harr) (ra_arr (hC.2.2.2.2.2.1.2 _ _ hI).2)
    hC.2.2.2.2.2.1 (by show va_P D vwCl (ws ++ []) H; rw [List.append_nil]; exact hP) (by show va_D A (ws ++ []); rw [List.append_nil]; exact hD) hS hC.2.2.2.2.2.2.1 (by decide) (by decide) (by decide) (by decide) (Nat.le_of_ble_eq_true rfl) (Nat.le_of_ble_eq_true rfl) (Nat.le_of_ble_eq_true rfl) rfl rfl hcells hslots (fun c => rfl) d
    (fun q r cA H1 hinj hnot hK1 hP1 hD1 hS1 => by
      have e1 : cA = cJ := tys_one hC.2.2.2.2.2.1 hJ (hK1.2 tys.length (cA, .array .int) (by simp)).2
      subst e1
      have e : ((ws ++ [(q, .inl (cA, 4, .inr (.inr (.inr (.inr (fun i => if i < 4 then some (r i) else none))))))]) ++ va_pl ([] ++ (List.range 4).map r) (vr_up (fun _ => .inr (0, [])) ((List.range 4).map r) (.inl (cI, (16, .inl (fun _ => 0))))) : va_W) = ws ++ [(q, .inl (cA, 4, .inr (.inr (.inr (.inr (fun i => if i < 4 then some (r i) else none)))))), (r 0, .inl (cI, 16, .inl (fun _ => 0))), (r 1, .inl (cI, 16, .inl (fun _ => 0))), (r 2, .inl (cI, 16, .inl (fun _ => 0))), (r 3, .inl (cI, 16, .inl (fun _ => 0)))] := by
        simp [va_pl, vr_up, List.range_succ]
      rw [e] at hP1 hD1
      exact kk q r H1 locs ls hP1 hD1 hS1 hlv)
end GMN
