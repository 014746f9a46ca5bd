section GN
variable {p : Program} {l : Launch} {e : Env} {R : Room} {s : State} {m : MethodId} {args : Array Value} {below : List Frame} {meth : Method} {c : Code}
variable {cc : ByteArray} {nL k n pc : Nat} {own : String} {Ts : List Cond} {D : va_G} {tys : List (ClassId × FieldType)} {A : Nat → Prop} {Q : State → Prop} {ws : va_W} {lv : List (Nat × Value)} {st rest : List Value}
theorem gObjInit (hC : gC p s m args meth c cc nL own Ts D tys A) {i a : Nat} (h1 : Cond.methodLink own i objectInit ∈ Ts) (h2 : Cond.instanceMethod objectInit ∈ Ts) (h3 : Cond.code objectInit ⟨#[0xb1]⟩ 1 none ∈ Ts) (hf : 1 ≤ R.frames) (hl : (st.map fun v => v.category).sum + 12 ≤ R.locals) (d : decode cc pc = .ok (.invokespecial i, 3)) (kk : gG p l e R s m args below meth c D A nL k n Q ws (pc + 3) lv st) : gG p l e R s m args below meth c D A nL k n Q ws pc lv (.ref a :: st) :=
  fun H locs ls hP hD hS hlv => W.objInit hC.1 hC.2.1 hC.2.2.2.1 (hC.2.2.2.2.1 _ h1) (hC.2.2.2.2.1 _ h2) (hC.2.2.2.2.1 _ h3) rfl (by rw [hC.2.2.1]; exact hlv.1) rfl d hf (by simpa using hl) (kk H locs ls hP hD hS hlv)
theorem tys_one (hK : va_K D vwCl tys s) {t0 : Nat} {cI cA : ClassId} {ty : FieldType} (ht : tys[t0]? = some (cI, ty)) (h : va_RA s cA ty) : cA = cI := by
  have h2 := (hK.2 t0 _ ht).2
  unfold va_RA at h h2
  cases ty with
  | object C =>
    obtain ⟨kA, comp, a1, a2, a3, a4⟩ := h
    obtain ⟨kB, comq, b1, b2, b3, b4⟩ := h2
    exact Option.some.inj (a4.symm.trans b4)
  | _ => exact Option.some.inj (h.symm.trans h2)
theorem gNewI (hC : gC p s m args meth c cc nL own Ts D tys A) {v : Int32} {N' t0 : Nat} {cI : ClassId} (harr : Cond.arrayClass .int ∈ Ts) (ht : tys[t0]? = some (cI, .int)) (hn : ¬ v < 0) (hN : v.toNatClampNeg = N') (hbytes : N' * 4 ≤ 536870912) (hcells : k + 1 ≤ R.cells) (hslots : n + N' ≤ R.slots) (d : decode cc pc = .ok (.newarray .int, 2))
    (kk : ∀ q, gG p l e R s m args below meth c D A nL (k + 1) (n + N') Q (ws ++ [(q, .inl (cI, N', .inl (fun _ => 0)))]) (pc + 2) lv (.ref q :: st)) : gG p l e R s m args below meth c D A nL k n Q ws pc lv (.int v :: st) :=
  fun H locs ls hP hD hS hlv => va_newa (atype := .int) (a0 := (N', .inl (fun _ => 0))) hC.1 hC.2.1 (hC.2.2.2.2.1 _ harr) rfl hC.2.2.2.2.2.1 hP hD hS hC.2.2.2.2.2.2.1 (fun _ => rfl) hn hN hbytes hcells hslots d
    (fun q cA H1 hK1 hP1 hD1 hS1 => by
      have e1 : cA = cI := tys_one hC.2.2.2.2.2.1 ht (hK1.2 tys.length (cA, .int) (by simp; rfl)).2
      subst e1
      exact kk q H1 locs ls hP1 hD1 hS1 hlv)
theorem gNewL (hC : gC p s m args meth c cc nL own Ts D tys A) {v : Int32} {N' t0 : Nat} {cI : ClassId} (harr : Cond.arrayClass .long ∈ Ts) (ht : tys[t0]? = some (cI, .long)) (hn : ¬ v < 0) (hN : v.toNatClampNeg = N') (hbytes : N' * 8 ≤ 536870912) (hcells : k + 1 ≤ R.cells) (hslots : n + N' ≤ R.slots) (d : decode cc pc = .ok (.newarray .long, 2))
    (kk : ∀ q, gG p l e R s m args below meth c D A nL (k + 1) (n + N') Q (ws ++ [(q, .inl (cI, N', .inr (.inl (fun _ => 0))))]) (pc + 2) lv (.ref q :: st)) : gG p l e R s m args below meth c D A nL k n Q ws pc lv (.int v :: st) :=
  fun H locs ls hP hD hS hlv => va_newa (atype := .long) (a0 := (N', .inr (.inl (fun _ => 0)))) hC.1 hC.2.1 (hC.2.2.2.2.1 _ harr) rfl hC.2.2.2.2.2.1 hP hD hS hC.2.2.2.2.2.2.1 (fun _ => rfl) hn hN hbytes hcells hslots d
    (fun q cA H1 hK1 hP1 hD1 hS1 => by
      have e1 : cA = cI := tys_one hC.2.2.2.2.2.1 ht (hK1.2 tys.length (cA, .long) (by simp; rfl)).2
      subst e1
      exact kk q H1 locs ls hP1 hD1 hS1 hlv)
theorem gNewD (hC : gC p s m args meth c cc nL own Ts D tys A) {v : Int32} {N' t0 : Nat} {cI : ClassId} (harr : Cond.arrayClass .double ∈ Ts) (ht : tys[t0]? = some (cI, .double)) (hn : ¬ v < 0) (hN : v.toNatClampNeg = N') (hbytes : N' * 8 ≤ 536870912) (hcells : k + 1 ≤ R.cells) (hslots : n + N' ≤ R.slots) (d : decode cc pc = .ok (.newarray .double, 2))
    (kk : ∀ q, gG p l e R s m args below meth c D A nL (k + 1) (n + N') Q (ws ++ [(q, .inl (cI, N', .inr (.inr (.inr (.inl (fun _ => 0))))))]) (pc + 2) lv (.ref q :: st)) : gG p l e R s m args below meth c D A nL k n Q ws pc lv (.int v :: st) :=
  fun H locs ls hP hD hS hlv => va_newa (atype := .double) (a0 := (N', .inr (.inr (.inr (.inl (fun _ => 0)))))) hC.1 hC.2.1 (hC.2.2.2.2.1 _ harr) rfl hC.2.2.2.2.2.1 hP hD hS hC.2.2.2.2.2.2.1 (fun _ => rfl) hn hN hbytes hcells hslots d
    (fun q cA H1 hK1 hP1 hD1 hS1 => by
      have e1 : cA = cI := tys_one hC.2.2.2.2.2.1 ht (hK1.2 tys.length (cA, .double) (by simp; rfl)).2
      subst e1
      exact kk q H1 locs ls hP1 hD1 hS1 hlv)
theorem gNewQ (hC : gC p s m args meth c cc nL own Ts D tys A) {v : Int32} {N' t0 i : Nat} {cR : ClassId} (hcl : Cond.classLink own i RX0 ∈ Ts) (ht : tys[t0]? = some (cR, .object RX0)) (hn : ¬ v < 0) (hN : v.toNatClampNeg = N') (hbytes : N' * 4 ≤ 536870912) (hcells : k + 1 ≤ R.cells) (hslots : n + N' ≤ R.slots) (d : decode cc pc = .ok (.anewarray i, 3))
    (kk : ∀ q, gG p l e R s m args below meth c D A nL (k + 1) (n + N') Q (ws ++ [(q, .inl (cR, N', .inr (.inr (.inr (.inr (fun _ => none))))))]) (pc + 3) lv (.ref q :: st)) : gG p l e R s m args below meth c D A nL k n Q ws pc lv (.int v :: st) :=
  fun H locs ls hP hD hS hlv => va_newq hC.1 hC.2.1 hC.2.2.2.1 (hC.2.2.2.2.1 _ hcl) hC.2.2.2.2.2.2.2.1.2.2.1 hC.2.2.2.2.2.1 hP hD hS hC.2.2.2.2.2.2.1 hn hN hbytes hcells hslots d
    (fun q cA H1 hK1 hP1 hD1 hS1 => by
      have e1 : cA = cR := tys_one hC.2.2.2.2.2.1 ht (hK1.2 tys.length (cA, .object RX0) (by simp)).2
      subst e1
      exact kk q H1 locs ls hP1 hD1 hS1 hlv)
theorem gNew (hC : gC p s m args meth c cc nL own Ts D tys A) {C : String} {T : u_T} {N ci i : Nat} (hin : ∀ w ∈ u_ws C T N, w ∈ Ts) (ty : Nat → FieldType) (hty : ∀ j, j < N → parseFieldDescriptor (T j).2.2.1 = some (ty j)) (hcl : Cond.classLink own i C ∈ Ts) (hinst : Cond.instantiable C N ∈ Ts) (hini : Cond.initialized C ∈ Ts) (hc : vwCl[ci]? = some (C, T, N)) {fs : List Value} (hfs : ∀ j, j < N → defaultValue (ty j) = vp_V fs j) (hcells : k + 1 ≤ R.cells) (hslots : n + N ≤ R.slots) (d : decode cc pc = .ok (.new i, 3))
    (kk : ∀ q, gG p l e R s m args below meth c D A nL (k + 1) (n + N) Q (ws ++ [(q, .inr (ci, fs))]) (pc + 3) lv (.ref q :: st)) : gG p l e R s m args below meth c D A nL k n Q ws pc lv st :=
  fun H locs ls hP hD hS hlv => va_new hC.1 hC.2.1 hC.2.2.2.2.1 hin ty hty hC.2.2.2.1 (hC.2.2.2.2.1 _ hcl) (hC.2.2.2.2.1 _ hinst) (hC.2.2.2.2.1 _ hini) hC.2.2.2.2.2.1 hP hD hS hC.2.2.2.2.2.2.1 hc hfs hcells hslots d (fun q H1 hP1 hD1 hS1 => kk q H1 locs ls hP1 hD1 hS1 hlv)
theorem gPutF (hC : gC p s m args meth c cc nL own Ts D tys A) {ref C : String} {T : u_T} {N ci i a : Nat} {fs : List Value} {v : Value} {ty : FieldType} {ws' : va_W} (hin : ∀ w ∈ u_ws C T N, w ∈ Ts) (ty0 : Nat → FieldType) (hty : ∀ k, k < N → parseFieldDescriptor (T k).2.2.1 = some (ty0 k)) (hnm : ∀ a, a < N → ∀ b, b < N → a ≠ b → (T a).2.1 ≠ (T b).2.1) (q0 : Nat) (he : ws[q0]? = some (a, .inr (ci, fs))) (hc : vwCl[ci]? = some (C, T, N)) (j : Nat) (hj : j < N) (hlink : Cond.fieldLink own i ref (T j).2.1 (T j).2.2.1 ∈ Ts) (hsame : (T j).1 = ref) (hfin : (T j).2.2.2 = true) (hname : meth.name = "<init>") (hdecl : (T j).1 = own) (hd : parseFieldDescriptor (T j).2.2.1 = some ty) (hn : narrow ty v = v) (hfit : fits ty v = true) (hlen : j < fs.length) (d : decode cc pc = .ok (.putfield i, 3)) (hw : ws.set q0 (a, .inr (ci, fs.set j v)) = ws') (kk : gG p l e R s m args below meth c D A nL k n Q ws' (pc + 3) lv st) : gG p l e R s m args below meth c D A nL k n Q ws pc lv (v :: .ref a :: st) := by
  subst hw
  exact fun H locs ls hP hD hS hl => va_putF (D := D) (cl := vwCl) (ci := ci) (v := v) (ty := ty) (C := C) (T := T) (N := N) hC.1 hC.2.1 hC.2.2.2.2.1 hin ty0 hty hnm hC.2.2.2.1 hC.2.2.2.2.2.1 hP hD hS q0 he hc j hj (hC.2.2.2.2.1 _ hlink) (fun _ h9 => by rw [← hsame]; exact h9) hfin hname hdecl hd hn hfit hlen d (fun H1 locs1 hP1 hD1 hS1 => kk H1 locs1 ls hP1 hD1 hS1 hl)
theorem gAastQ (hC : gC p s m args meth c cc nL own Ts D tys A) {cR : ClassId} {N v a ci : Nat} {vs : List Value} {f : Nat → Option Nat} {i : Int32} {ws' : va_W} {r : vw_C} (j : Nat) (hij : i = nI j) (hj : j < N) (hN : N < 2 ^ 31) (q0 t0 qk : Nat) (ha : ws[q0]? = some (a, .inl (cR, N, .inr (.inr (.inr (.inr f)))))) (ht : tys[t0]? = some (cR, .object r.1)) (hv : ws[qk]? = some (v, .inr (ci, vs))) (hc : vwCl[ci]? = some r) (d : decode cc pc = .ok (.aastore, 1)) (hw : ws.set q0 (a, .inl (cR, N, .inr (.inr (.inr (.inr (va_up f j (some v))))))) = ws') (kk : gG p l e R s m args below meth c D A nL k n Q ws' (pc + 1) lv st) : gG p l e R s m args below meth c D A nL k n Q ws pc lv (.ref v :: .int i :: .ref a :: st) := by
  subst hw; subst hij
  exact fun H locs ls hP hD hS hl => va_astq hC.1 hC.2.1 hC.2.2.2.2.2.1 hP hD hS q0 t0 qk ci ha ht hv hc (vp_in_nI hj hN) d (fun H1 locs1 hP1 hD1 hS1 => by rw [nI_clamp (Nat.lt_trans hj hN)] at hP1 hD1; exact kk H1 locs1 ls hP1 hD1 hS1 hl)
/-- the same cells in another order (some may be left out) -/
theorem gPerm {ws' : va_W} (is : List Nat) (h : is.map (fun i => ws[i]?) = ws'.map some) (hn : va_nd is = true) (kk : gG p l e R s m args below meth c D A nL k n Q ws' pc lv st) : gG p l e R s m args below meth c D A nL k n Q ws pc lv st :=
  fun H locs ls hP hD hS hl => kk H locs ls (hP.sub is (by have h2 := congrArg (List.filterMap id) h; simpa [List.filterMap_map, Function.comp_def] using h2)) (hD.sub is hn h) hS hl
theorem gIN {y : MethodName} {bytes : ByteArray} {maxL mc ms na index b : Nat} {wsy : List Cond} {rm : Room} {As : List Value} {post : Option Value → va_W → Prop} {host : String} (hC : gC p s m args meth c cc nL own Ts D tys A) (hM : gM l y wsy rm D tys ws (.ref b :: As) mc ms post) (cw : va_CN R s args own index y host bytes maxL none wsy rm mc ms na ∧ y.name = "<init>" ∧ (Cond.instanceMethod y).before args s = true) (hn : As.length = na) (hst : st = As.reverse ++ .ref b :: rest) (hW : (rest.map fun v => v.category).sum ≤ 8) (hdg : decode cc pc = .ok (.invokespecial index, 3)) (hf : k + mc ≤ R.cells ∧ n + ms ≤ R.slots)
    (kk : ∀ (v : Option Value) (w1 : va_W), post v w1 → gG p l e R s m args below meth c D A nL (k + mc) (n + ms) Q w1 (pc + 3) lv (v.toList ++ rest)) : gG p l e R s m args below meth c D A nL k n Q ws pc lv st :=
  gRun hC (fun H locs ls hP hD hS hl => va_runIN hC.fix (hM H.size) cw (gPre hC hP hD hS) rfl hn hl hst (by simpa using hW) hdg hf) kk
theorem gII {y : MethodName} {bytes : ByteArray} {maxL mc ms na index b : Nat} {wsy : List Cond} {rm : Room} {As : List Value} {post : Option Value → va_W → Prop} (hC : gC p s m args meth c cc nL own Ts D tys A) (hM : gM l y wsy rm D tys ws (.ref b :: As) mc ms post) (cw : CallB R s args own index y bytes maxL none wsy rm mc ms na ∧ y.name = "<init>" ∧ (Cond.instanceMethod y).before args s = true) (hn : As.length = na) (hst : st = As.reverse ++ .ref b :: rest) (hW : (rest.map fun v => v.category).sum ≤ 8) (hdg : decode cc pc = .ok (.invokespecial index, 3)) (hf : k + mc ≤ R.cells ∧ n + ms ≤ R.slots)
    (kk : ∀ (v : Option Value) (w1 : va_W), post v w1 → gG p l e R s m args below meth c D A nL (k + mc) (n + ms) Q w1 (pc + 3) lv (v.toList ++ rest)) : gG p l e R s m args below meth c D A nL k n Q ws pc lv st :=
  gRun hC (fun H locs ls hP hD hS hl => va_runI hC.fix (hM H.size) cw (gPre hC hP hD hS) rfl hn hl hst (by simpa using hW) hdg hf) kk
end GN
