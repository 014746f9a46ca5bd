/-! Rules for the law: a call with handlers about it, a call of such a method, its arrays, its script, its switch; and the law's worlds -/
section GH
variable {p : Program} {l : Launch} {e : Env} {R : Room} {s : State} {m : MethodId} {args : Array Value} {below : List Frame} {meth : Method} {c : Code}
variable {cc : ByteArray} {nL k n pc : Nat} {own : String} {Ts : List Cond} {D : va_G} {tys : List (ClassId × FieldType)} {A : Nat → Prop} {Q : State → Prop} {ws : va_W} {lv : List (Nat × Value)} {st rest : List Value}
/-- a handler stands ready for E, thrown at pc -/
def gHd (p : Program) (l : Launch) (e : Env) (R : Room) (s : State) (m : MethodId) (args : Array Value) (below : List Frame) (meth : Method) (c : Code) (own : String) (D : va_G) (A : Nat → Prop) (nL k n : Nat) (Q : State → Prop) (ws : va_W) (pc : Nat) (lv : List (Nat × Value)) (E : String) : Prop :=
  ∃ (pre : List ExceptionTableEntry) (x : ExceptionTableEntry) (suf : List ExceptionTableEntry) (nm : String), c.exceptionTable.toList = pre ++ x :: suf ∧ (∀ z ∈ pre, covers z pc = false ∨ (z.catchType ≠ 0 ∧ ∃ nm : String, (Cond.classLink own z.catchType nm).before args s = true ∧ va_Nc E nm s)) ∧ covers x pc = true ∧ x.catchType ≠ 0 ∧ (Cond.classLink own x.catchType nm).before args s = true ∧ (Cond.castable E nm).before args s = true ∧
    ∀ a : Nat, gG p l e R s m args below meth c D A nL k n Q ws x.handlerPc lv [.ref a]
theorem gHdN (hC : gC p s m args meth c cc nL own Ts D tys A) {E : String} (pre : List (Nat × Nat × Nat × Nat)) (h : Nat × Nat × Nat × Nat) (suf : List (Nat × Nat × Nat × Nat)) {hh : List (Nat × Nat × Nat × Nat)} (hT : c.exceptionTable.toList = tableOf hh) (hs : hh = pre ++ h :: suf)
    (hpre : ∀ z ∈ pre, z.2.2.2 ≠ 0 ∧ ∃ nm : String, Cond.classLink own z.2.2.2 nm ∈ Ts ∧ (E, nm) ∈ gNo) (hcov : covers ⟨h.1, h.2.1, h.2.2.1, h.2.2.2⟩ pc = true) (h0 : h.2.2.2 ≠ 0) (hl : Cond.classLink own h.2.2.2 E ∈ Ts) (hca : Cond.castable E E ∈ gNW)
    (kk : ∀ a : Nat, gG p l e R s m args below meth c D A nL k n Q ws h.2.2.1 lv [.ref a]) : gHd p l e R s m args below meth c own D A nL k n Q ws pc lv E := by
  subst hs
  refine ⟨tableOf pre, ⟨h.1, h.2.1, h.2.2.1, h.2.2.2⟩, tableOf suf, E, by rw [hT]; simp [tableOf], fun z hz => ?_, hcov, h0, hC.2.2.2.2.1 _ hl, va_Nw.use rfl (hC.2.2.2.2.2.2.2.1.1 _ hca), kk⟩
  obtain ⟨q, hq, rfl⟩ := List.mem_map.mp hz
  obtain ⟨h1, nm, h2, h3⟩ := hpre q hq
  exact Or.inr ⟨h1, nm, hC.2.2.2.2.1 _ h2, hC.2.2.2.2.2.2.2.1.2.2.2.2 _ h3⟩
theorem gVH {y : MethodName} {bytes : ByteArray} {maxL mc ms na index : Nat} {ret : Option FieldType} {wsy : List Cond} {rm : Room} {As : List Value} {post : Option Value → va_W → Prop} {px : String → va_W → Prop} {ci q0 b : Nat} {q : vw_C} {fs : List Value}
    (hC : gC p s m args meth c cc nL own Ts D tys A) (hl9 : l.stackTraces = false) (hM : gX l y wsy rm D tys ws (.ref b :: As) mc ms post px) (hc : vwCl[ci]? = some q) (he : ws[q0]? = some (b, .inr (ci, fs))) (cw : CallW R s args own q.1 index y bytes maxL ret wsy rm mc ms na) (hn : As.length = na) (hst : st = As.reverse ++ .ref b :: rest) (hW : (rest.map fun v => v.category).sum ≤ 8) (hdg : decode cc pc = .ok (.invokevirtual index, 3)) (hf : k + mc ≤ R.cells ∧ n + ms ≤ R.slots)
    (hx : ∀ E w1, px E w1 → gHd p l e R s m args below meth c own D A nL (k + mc) (n + ms) Q w1 pc lv E)
    (kk : ∀ (v : Option Value) (w1 : va_W), post v w1 → gG p l e R s m args below meth c D A nL (k + mc) (n + ms) Q w1 (pc + 3) lv (v.toList ++ rest)) : gG p l e R s m args below meth c D A nL k n Q ws pc lv st :=
  gRunX hC (fun H locs ls hP hD hS hl => vx_runV hC.fix (hM hl9 H.size) cw ⟨(gPre hC hP hD hS).1, gRecv hC hP hc he, (gPre hC hP hD hS).2⟩ rfl hn hl hst (by simpa using hW) hdg hf)
    (fun E w1 h H locs ls ce a hP hD hS hl hce hcv hcl => by
      obtain ⟨pre, x, suf, nm, h1, h2, h3, h4, h5, h6, hk⟩ := hx E w1 h
      exact vx_catch hC.2.2.2.1 pre x suf h1 h2 h3 h4 h5 h6 hce hcv hcl (hk a H locs ls hP hD hS hl)) kk
theorem gSW {y : MethodName} {bytes : ByteArray} {maxL mc ms na index : Nat} {ret : Option FieldType} {hh : List (Nat × Nat × Nat × Nat)} {wsy : List Cond} {rm : Room} {As : List Value} {post : Option Value → va_W → Prop}
    (hC : gC p s m args meth c cc nL own Ts D tys A) (hl9 : l.stackTraces = false) (hM : gX l y wsy rm D tys ws As mc ms post (fun _ _ => False)) (cw : vx_CSW R s args own index y bytes maxL ret hh wsy rm mc ms na) (hn : As.length = na) (hst : st = As.reverse ++ rest) (hW : (rest.map fun v => v.category).sum ≤ 8) (hdg : decode cc pc = .ok (.invokestatic index, 3)) (hf : k + mc ≤ R.cells ∧ n + ms ≤ R.slots)
    (kk : ∀ (v : Option Value) (w1 : va_W), post v w1 → gG p l e R s m args below meth c D A nL (k + mc) (n + ms) Q w1 (pc + 3) lv (v.toList ++ rest)) : gG p l e R s m args below meth c D A nL k n Q ws pc lv st :=
  gRunX hC (fun H locs ls hP hD hS hl => vx_runSX (hh := hh) hC.fix (hM hl9 H.size) cw (gPre hC hP hD hS) rfl hn hl hst (by simpa using hW) hdg hf) (fun E w1 h => h.elim) kk
theorem gX.ofH {l : Launch} {y : MethodName} {wsy ws' : List Cond} {rm : Room} {D : va_G} {tys : List (ClassId × FieldType)} {w0 : va_W} {av : List Value} {mc ms : Nat} {post : Option Value → va_W → Prop} {px : String → va_W → Prop} {cc : ByteArray} {maxL : Nat} {ret : Option FieldType} {own : String} {hh : List (Nat × Nat × Nat × Nat)} {lv0 : List (Nat × Value)}
    (hy : plainName y.cls = true) (hw : wsy = Cond.codeWith y cc maxL ret hh :: ws') (ho : y.cls = own) (hlen : (lg_sl av).length ≤ maxL) (hlv : lv_args 0 av = lv0)
    (body : ∀ (p : Program) (e : Env) (s : State) (m : MethodId) (args : Array Value) (below : List Frame) (meth : Method) (c : Code) (A : Nat → Prop) (Q : State → Prop), gC p s m args meth c cc maxL own wsy D tys A → meth.sig.returnType = ret → Q = vx_MQ below (gQc D A post) (gXc D A px) args s mc ms A → c.exceptionTable.toList = tableOf hh → l.stackTraces = false →
      gG p l e rm s m args below meth c D A maxL 0 0 Q w0 0 lv0 []) : gX l y wsy rm D tys w0 av mc ms post px := by
  intro hl9 sz
  refine vx_ofWH (cc := cc) (maxL := maxL) (ret := ret) (hh := hh) hy hw ?_
  intro p e s m args below meth c s₁ B hml hv
  have hT : c.exceptionTable.toList = tableOf hh := vx_table (x := y) (bytes := cc) (maxL' := maxL) (ret' := ret) B (atoms_spec (ws := wsy) B.pre _ (by rw [hw]; exact List.mem_cons_self))
  obtain ⟨rfl, hsz, hP, hK, hD0, hE, hZ⟩ := hv
  subst hsz
  subst hlv
  have hD := hD0.self (sz := s.heap.size)
  have hA : ∀ q : Nat, s.heap.size ≤ q → va_A w0 s.heap.size q := fun q h => Or.inr h
  have hl := lv_entry av (n := maxL) hlen
  rw [lg_entry_eq]
  exact body p e s m av.toArray below meth c (va_A w0 s.heap.size) _ ⟨B.exec, B.bytes, hml, ho ▸ findClass_of_methodNamed B.named, atoms_spec (ws := wsy) B.pre, hK, hA, hE, hZ, B.notSynchronized⟩ B.returns rfl hT hl9 s.heap [] _ hP hD va_S.rf hl
theorem gLast (hC : gC p s m args meth c cc nL own Ts D tys A) {a N : Nat} {cA : ClassId} {f : Nat → Int64} {i : Int32} {x : Int64} {ws' : va_W} (j : Nat) (hij : i = nI j) (hj : j < N) (hN : N < 2 ^ 31) (q0 t0 : Nat) (ha : ws[q0]? = some (a, .inl (cA, N, .inr (.inl f)))) (ht : tys[t0]? = some (cA, .long)) (d : decode cc pc = .ok (.lastore, 1)) (hw : ws.set q0 (a, .inl (cA, N, .inr (.inl (vp_updL f j x)))) = ws') (kk : gG p l e R s m args below meth c D A nL k n Q ws' (pc + 1) lv st) : gG p l e R s m args below meth c D A nL k n Q ws pc lv (.long x :: .int i :: .ref a :: st) := by
  subst hw; subst hij
  exact fun H locs ls hP hD hS hl => va_last hC.1 hC.2.1 hC.2.2.2.2.2.1 hP hD hS q0 t0 ha ht (vp_in_nI hj hN) d (fun H1 locs1 hP1 hD1 hS1 => by rw [nI_clamp (Nat.lt_trans hj hN)] at hP1 hD1; exact kk H1 locs1 ls hP1 hD1 hS1 hl)
theorem gDast (hC : gC p s m args meth c cc nL own Ts D tys A) {a N : Nat} {cA : ClassId} {f : Nat → UInt64} {i : Int32} {x : UInt64} {ws' : va_W} (j : Nat) (hij : i = nI j) (hj : j < N) (hN : N < 2 ^ 31) (q0 t0 : Nat) (ha : ws[q0]? = some (a, .inl (cA, N, .inr (.inr (.inr (.inl f)))))) (ht : tys[t0]? = some (cA, .double)) (d : decode cc pc = .ok (.dastore, 1)) (hw : ws.set q0 (a, .inl (cA, N, .inr (.inr (.inr (.inl (vf_upd f j x)))))) = ws') (kk : gG p l e R s m args below meth c D A nL k n Q ws' (pc + 1) lv st) : gG p l e R s m args below meth c D A nL k n Q ws pc lv (.double x :: .int i :: .ref a :: st) := by
  subst hw; subst hij
  exact fun H locs ls hP hD hS hl => va_dast hC.1 hC.2.1 hC.2.2.2.2.2.1 hP hD hS q0 t0 ha ht (vp_in_nI hj hN) d (fun H1 locs1 hP1 hD1 hS1 => by rw [nI_clamp (Nat.lt_trans hj hN)] at hP1 hD1; exact kk H1 locs1 ls hP1 hD1 hS1 hl)
theorem gLald (hC : gC p s m args meth c cc nL own Ts D tys A) {a N : Nat} {cA : ClassId} {f : Nat → Int64} {i : Int32} {v : Int64} (j : Nat) (hij : i = nI j) (hj : j < N) (hN : N < 2 ^ 31) (q0 t0 : Nat) (ha : ws[q0]? = some (a, .inl (cA, N, .inr (.inl f)))) (ht : tys[t0]? = some (cA, .long)) (hv : f j = v) (d : decode cc pc = .ok (.laload, 1)) (kk : gG p l e R s m args below meth c D A nL k n Q ws (pc + 1) lv (.long v :: st)) : gG p l e R s m args below meth c D A nL k n Q ws pc lv (.int i :: .ref a :: st) := by
  subst hv; subst hij
  exact fun H locs ls hP hD hS hl => va_lald hC.1 hC.2.1 hC.2.2.2.2.2.1 hP q0 t0 ha ht (vp_in_nI hj hN) d (by rw [nI_clamp (Nat.lt_trans hj hN)]; exact kk H locs ls hP hD hS hl)
theorem gDald (hC : gC p s m args meth c cc nL own Ts D tys A) {a N : Nat} {cA : ClassId} {f : Nat → UInt64} {i : Int32} {v : UInt64} (j : Nat) (hij : i = nI j) (hj : j < N) (hN : N < 2 ^ 31) (q0 t0 : Nat) (ha : ws[q0]? = some (a, .inl (cA, N, .inr (.inr (.inr (.inl f)))))) (ht : tys[t0]? = some (cA, .double)) (hv : f j = v) (d : decode cc pc = .ok (.daload, 1)) (kk : gG p l e R s m args below meth c D A nL k n Q ws (pc + 1) lv (.double v :: st)) : gG p l e R s m args below meth c D A nL k n Q ws pc lv (.int i :: .ref a :: st) := by
  subst hv; subst hij
  exact fun H locs ls hP hD hS hl => va_dald hC.1 hC.2.1 hC.2.2.2.2.2.1 hP q0 t0 ha ht (vp_in_nI hj hN) d (by rw [nI_clamp (Nat.lt_trans hj hN)]; exact kk H locs ls hP hD hS hl)
/-- the script -/
theorem gSld (hC : gC p s m args meth c cc nL own Ts D tys A) {b N : Nat} {xs : Nat → Int32} (hX : va_X b N xs s s.heap ∧ b < s.heap.size ∧ ¬ A b) {i : Int32} (j : Nat) (hij : i = nI j) (hj : j < N) (hN : N ≤ 2048) {v : Int32} (hv : xs j = v) (d : decode cc pc = .ok (.iaload, 1)) (kk : gG p l e R s m args below meth c D A nL k n Q ws (pc + 1) lv (.int v :: st)) : gG p l e R s m args below meth c D A nL k n Q ws pc lv (.int i :: .ref b :: st) := by
  subst hij; subst hv
  have hN2 : N < 2 ^ 31 := by omega
  exact fun H locs ls hP hD hS hl => va_sld hC.1 hC.2.1 hX.1 hX.2.1 hX.2.2 hS (vp_in_nI hj hN2) d (by rw [nI_clamp (Nat.lt_trans hj hN2)]; exact kk H locs ls hP hD hS hl)
theorem gSlen (hC : gC p s m args meth c cc nL own Ts D tys A) {b N : Nat} {xs : Nat → Int32} (hX : va_X b N xs s s.heap ∧ b < s.heap.size ∧ ¬ A b) (d : decode cc pc = .ok (.arraylength, 1)) (kk : gG p l e R s m args below meth c D A nL k n Q ws (pc + 1) lv (.int (nI N) :: st)) : gG p l e R s m args below meth c D A nL k n Q ws pc lv (.ref b :: st) :=
  fun H locs ls hP hD hS hl => va_slen hC.1 hC.2.1 hX.1 hX.2.1 hX.2.2 hS d (kk H locs ls hP hD hS hl)
theorem gC.sub (hC : gC p s m args meth c cc nL own Ts D tys A) {tys' : List (ClassId × FieldType)} (is : List Nat) (hs : is.filterMap (fun i => tys[i]?) = tys') : gC p s m args meth c cc nL own Ts D tys' A :=
  ⟨hC.1, hC.2.1, hC.2.2.1, hC.2.2.2.1, hC.2.2.2.2.1, hC.2.2.2.2.2.1.sub is hs, hC.2.2.2.2.2.2⟩
/-- x != 0 as an int, y ? 1L : 0L as a long -/
def bz (x : Int32) : Int32 := if x = 0 then nI 0 else nI 1
def bl (x : Int32) : Int64 := if x = 0 then lN 0 else lN 1
theorem gNz (hC : gC p s m args meth c cc nL own Ts D tys A) {x : Int32} (pc : Nat) (d0 : decode cc pc = .ok (.ifCond .eq 7, 3)) (d1 : decode cc (pc + 3) = .ok (.iconst 1, 1)) (d2 : decode cc (pc + 4) = .ok (.goto 4, 3)) (d3 : decode cc (pc + 7) = .ok (.iconst 0, 1)) (kk : gG p l e R s m args below meth c D A nL k n Q ws (pc + 8) lv (.int (bz x) :: st)) : gG p l e R s m args below meth c D A nL k n Q ws pc lv (.int x :: st) := by
  refine gIf_eq (tgt := pc + 7) (pc := pc) hC d0 (by omega) (fun h => ?_) (fun h => ?_)
  · refine gIconst (v := nI 0) (pc := pc + 7) hC d3 rfl ?_
    rw [bz, if_pos h] at kk
    exact kk
  · refine gIconst (v := nI 1) (pc := pc + 3) hC d1 rfl ?_
    rw [bz, if_neg h] at kk
    exact gGoto (tgt := pc + 8) (pc := pc + 4) hC d2 (by omega) kk
theorem gNl (hC : gC p s m args meth c cc nL own Ts D tys A) {x : Int32} (pc : Nat) (d0 : decode cc pc = .ok (.ifCond .eq 7, 3)) (d1 : decode cc (pc + 3) = .ok (.lconst 1, 1)) (d2 : decode cc (pc + 4) = .ok (.goto 4, 3)) (d3 : decode cc (pc + 7) = .ok (.lconst 0, 1)) (kk : gG p l e R s m args below meth c D A nL k n Q ws (pc + 8) lv (.long (bl x) :: st)) : gG p l e R s m args below meth c D A nL k n Q ws pc lv (.int x :: st) := by
  refine gIf_eq (tgt := pc + 7) (pc := pc) hC d0 (by omega) (fun h => ?_) (fun h => ?_)
  · refine gLconst (v := lN 0) (pc := pc + 7) hC d3 rfl ?_
    rw [bl, if_pos h] at kk
    exact kk
  · refine gLconst (v := lN 1) (pc := pc + 3) hC d1 rfl ?_
    rw [bl, if_neg h] at kk
    exact gGoto (tgt := pc + 8) (pc := pc + 4) hC d2 (by omega) kk
end GH
/-- the law's layout: the class's cells, the reference's cells, out, outD and their classes -/
abbrev wLay : Type := (Nat × Nat × (Nat → Nat) × (Nat → Nat) × ClassId × ClassId) × (Nat × Nat × Nat × Nat × (Nat → Nat) × ClassId) × Nat × Nat × ClassId × ClassId
def wx (q : wLay) : Nat := q.1.1
def wm (q : wLay) : Nat := q.2.1.1
def wo (q : wLay) : Nat := q.2.2.1
def wd (q : wLay) : Nat := q.2.2.2.1
def wO (q : wLay) (f : Nat → Int64) : Nat × va_E := (wo q, .inl (q.2.2.2.2.1, 1, .inr (.inl f)))
def wD (q : wLay) (g : Nat → UInt64) : Nat × va_E := (wd q, .inl (q.2.2.2.2.2, 1, .inr (.inr (.inr (.inl g)))))
def LC0 (q : wLay) : cLay := (q.1.1, q.1.2.1, q.1.2.2.1, q.1.2.2.2.1, q.1.2.2.2.2.1, q.1.2.2.2.2.2, [], [])
def LM0 (q : wLay) : mLay := (q.2.1.1, q.2.1.2.1, q.2.1.2.2.1, q.2.1.2.2.2.1, q.2.1.2.2.2.2.1, q.1.2.2.2.2.1, q.2.1.2.2.2.2.2, [], [])
def LC (q : wLay) (f : Nat → Int64) (g : Nat → UInt64) (μ : mSt) : cLay := (q.1.1, q.1.2.1, q.1.2.2.1, q.1.2.2.2.1, q.1.2.2.2.2.1, q.1.2.2.2.2.2, wO q f :: wD q g :: WM (LM0 q) μ, [(q.2.1.2.2.2.2.2, .array .int), (q.2.2.2.2.1, .long), (q.2.2.2.2.2, .double)])
def LM (q : wLay) (f : Nat → Int64) (g : Nat → UInt64) (σ : cSt) : mLay := (q.2.1.1, q.2.1.2.1, q.2.1.2.2.1, q.2.1.2.2.2.1, q.2.1.2.2.2.2.1, q.1.2.2.2.2.1, q.2.1.2.2.2.2.2, wO q f :: wD q g :: WC (LC0 q) σ, [(q.1.2.2.2.2.2, .object "Rootrows$Row"), (q.2.2.2.2.1, .long), (q.2.2.2.2.2, .double)])
def wTy (q : wLay) : List (ClassId × FieldType) := [(q.1.2.2.2.2.1, .int), (q.1.2.2.2.2.2, .object "Rootrows$Row"), (q.2.1.2.2.2.2.2, .array .int), (q.2.2.2.2.1, .long), (q.2.2.2.2.2, .double)]
def wTm (q : wLay) : List (ClassId × FieldType) := [(q.1.2.2.2.2.1, .int), (q.2.1.2.2.2.2.2, .array .int), (q.1.2.2.2.2.2, .object "Rootrows$Row"), (q.2.2.2.2.1, .long), (q.2.2.2.2.2, .double)]
section GH2
variable {p : Program} {l : Launch} {e : Env} {R : Room} {s : State} {m : MethodId} {args : Array Value} {below : List Frame} {meth : Method} {c : Code}
variable {cc : ByteArray} {nL k n pc : Nat} {own : String} {Ts : List Cond} {D : va_G} {A : Nat → Prop} {Q : State → Prop} {lv : List (Nat × Value)} {st rest : List Value} {q : wLay} {σ : cSt} {μ : mSt} {f : Nat → Int64} {g : Nat → UInt64}
theorem gToM (kk : gG p l e R s m args below meth c D A nL k n Q (WM (LM q f g σ) μ) pc lv st) : gG p l e R s m args below meth c D A nL k n Q (WC (LC q f g μ) σ) pc lv st :=
  gPerm [24, 25, 26, 27, 28, 29, 30, 31, 32, 22, 23, 0, 1, 2, 3, 4, 5, 6, 7, 8, 9, 10, 11, 12, 13, 14, 15, 16, 17, 18, 19, 20, 21] rfl (by decide) kk
theorem gToC (kk : gG p l e R s m args below meth c D A nL k n Q (WC (LC q f g μ) σ) pc lv st) : gG p l e R s m args below meth c D A nL k n Q (WM (LM q f g σ) μ) pc lv st :=
  gPerm [11, 12, 13, 14, 15, 16, 17, 18, 19, 20, 21, 22, 23, 24, 25, 26, 27, 28, 29, 30, 31, 32, 9, 10, 0, 1, 2, 3, 4, 5, 6, 7, 8] rfl (by decide) kk
theorem gCm (hC : gC p s m args meth c cc nL own Ts D (wTy q) A) : gC p s m args meth c cc nL own Ts D (wTm q) A := hC.sub [0, 2, 1, 3, 4] rfl
end GH2
/-- a wrapper's end: the code of what was thrown, or 0 and an answer in out -/
def wPost (q : wLay) (g : Nat → UInt64) (μ : mSt) (Δ Δ' : dSt) (K : Nat) (CV : Int64 → Prop) : Option Value → va_W → Prop := fun r w => r = some (.int (nI K)) ∧ ∃ (σ' : cSt) (f' : Nat → Int64), w = WC (LC q f' g μ) σ' ∧ ((K = 0 ∧ CV (f' 0) ∧ cRel σ' Δ') ∨ (¬ K = 0 ∧ cRel σ' Δ))
def wPostD (q : wLay) (f : Nat → Int64) (μ : mSt) (Δ Δ' : dSt) (K : Nat) (CV : UInt64 → Prop) : Option Value → va_W → Prop := fun r w => r = some (.int (nI K)) ∧ ∃ (σ' : cSt) (g' : Nat → UInt64), w = WC (LC q f g' μ) σ' ∧ ((K = 0 ∧ CV (g' 0) ∧ cRel σ' Δ') ∨ (¬ K = 0 ∧ cRel σ' Δ))
theorem wJoin {K : Nat} {P1 P2 Q1 Q2 C1 C2 : Prop} (h1 : (K = 0 ∧ C1 ∧ P1) ∨ (¬ K = 0 ∧ P2)) (h2 : (K = 0 ∧ C2 ∧ Q1) ∨ (¬ K = 0 ∧ Q2)) : (K = 0 ∧ (C1 ∧ P1) ∧ C2 ∧ Q1) ∨ (¬ K = 0 ∧ P2 ∧ Q2) := by
  rcases h1 with ⟨a, b⟩ | ⟨a, b⟩ <;> rcases h2 with ⟨a2, b2⟩ | ⟨a2, b2⟩
  · exact Or.inl ⟨a, b, b2⟩
  · exact absurd a a2
  · exact absurd a2 a
  · exact Or.inr ⟨a, b, b2⟩
theorem kk1_n {a : Prop} [Decidable a] (h : ¬ kk1 a = 0) : ¬ nI (kk1 a) = 0 := by
  unfold kk1 at h ⊢
  split <;> simp_all <;> decide
theorem kk2_n {a b : Prop} [Decidable a] [Decidable b] (h : ¬ kk2 a b = 0) : ¬ nI (kk2 a b) = 0 := by
  unfold kk2 at h ⊢
  split <;> (try split) <;> simp_all <;> decide
theorem kk3_n {a b c : Prop} [Decidable a] [Decidable b] [Decidable c] (h : ¬ kk3 a b c = 0) : ¬ nI (kk3 a b c) = 0 := by
  unfold kk3 at h ⊢
  split <;> (try split) <;> (try split) <;> simp_all <;> decide
theorem okR_of0 {x : Int32} (h : kk1 (okR x) = 0) : okR x := by
  refine Decidable.byContradiction (fun hn => ?_)
  rw [kk1_1 hn] at h
  cases h
theorem wc_set22 (x g : Nat) (a b : Nat → Nat) (cI cR : ClassId) (z z' : Nat × va_E) (r : va_W) (T T' : List (ClassId × FieldType)) (σ : cSt) : (WC (x, g, a, b, cI, cR, z :: r, T) σ).set 22 z' = WC (x, g, a, b, cI, cR, z' :: r, T') σ := rfl
theorem wc_set23 (x g : Nat) (a b : Nat → Nat) (cI cR : ClassId) (u z z' : Nat × va_E) (r : va_W) (T T' : List (ClassId × FieldType)) (σ : cSt) : (WC (x, g, a, b, cI, cR, u :: z :: r, T) σ).set 23 z' = WC (x, g, a, b, cI, cR, u :: z' :: r, T') σ := rfl
theorem wo_set (q : wLay) (f f' : Nat → Int64) (g : Nat → UInt64) (μ : mSt) (σ : cSt) : (WC (LC q f g μ) σ).set 22 (wO q f') = WC (LC q f' g μ) σ := wc_set22 ..
theorem wd_set (q : wLay) (f : Nat → Int64) (g g' : Nat → UInt64) (μ : mSt) (σ : cSt) : (WC (LC q f g μ) σ).set 23 (wD q g') = WC (LC q f g' μ) σ := wc_set23 ..
