/-! A layer over the kit's rows: a walk's goal over whole worlds, with the heap, the frame and the tables' facts out of sight -/
def gNW : List Cond := [.methodLinkNest "Rootrows" 15 yX0_init "Rootrows", .methodLinkNest "Rootrows$Row" 31 yX1_isNumber "Rootrows", .methodLinkNest "Rootrows$Row" 39 yX1_reduced "Rootrows", .methodLinkNest "Rootrows$Row" 47 yX1_multiplied "Rootrows", .methodLinkNest "Rootrows$Row" 51 yX1_added "Rootrows", .methodLinkNest "Rootrows$Row" 54 yX1_lessened "Rootrows",
  .castable "java/lang/IndexOutOfBoundsException" "java/lang/IndexOutOfBoundsException", .castable "java/lang/IllegalArgumentException" "java/lang/IllegalArgumentException", .castable "java/lang/IllegalStateException" "java/lang/IllegalStateException",
  .declares ⟨"java/lang/RuntimeException", "<init>", "(Ljava/lang/String;)V"⟩, .declares ⟨"java/lang/Exception", "<init>", "(Ljava/lang/String;)V"⟩, .declares ⟨"java/lang/Throwable", "<init>", "(Ljava/lang/String;)V"⟩]
def gStr : List (Nat × String) := [(66, "from is out of range"), (85, "odd is even or out of range"), (133, "one of the values is 0"), (156, "how is none of the signs"), (233, "there is no such row"), (235, "there is no such place"), (240, "the number is out of range"), (245, "length is none of 2, 4, 8 and 16"), (247, "after is none of 1, 2, 4, 8 and 16, or greater than the length"), (249, "the lengths are unlike"), (251, "the length is 16")]
theorem gAO {t : FieldType} {u U : State} (hvm : u.vm.Alike U.vm) (h : (Cond.arrayOver t).before #[] u = true) : (Cond.arrayOver t).before #[] U = true :=
  (Cond.arrayOver_setVmC (args := #[]) (s := u) (vm' := U.vm) hvm t).trans h
def gNo : List (String × String) := [("java/lang/IllegalArgumentException", "java/lang/IndexOutOfBoundsException"), ("java/lang/IllegalStateException", "java/lang/IndexOutOfBoundsException"), ("java/lang/IllegalStateException", "java/lang/IllegalArgumentException")]
def gEnv (U : State) : Prop := (∀ w ∈ gNW, va_Nw w U) ∧ (∀ q ∈ gStr, ∃ a, vk_R RX1 q.1 q.2 a U) ∧ va_AO RX0 U ∧ va_AOA .int U ∧ (∀ q ∈ gNo, va_Nc q.1 q.2 U)
def gZ (A : Nat → Prop) (U : State) (H : Heap) : Prop := vx_Zq Bundle.tN "UNASSIGNED_STACK" Bundle.steD A U H ∧ vx_Zq Bundle.tN "SUPPRESSED_SENTINEL" Bundle.listD A U H
theorem gEnv.warm {s U : State} (hW : s.WarmedH U.vm) (h : gEnv s) : gEnv U := by
  refine ⟨fun w hw => ?_, fun q hq => ?_, gAO hW.alike h.2.2.1, gAO hW.alike h.2.2.2.1, fun q hq => (h.2.2.2.2 q hq).moved hW.alike⟩
  · have h1 := h.1 w hw
    simp only [gNW, List.mem_cons, List.not_mem_nil, or_false] at hw
    rcases hw with rfl | rfl | rfl | rfl | rfl | rfl | rfl | rfl | rfl | rfl | rfl | rfl <;> first | exact va_Nw.warmM hW h1 | exact va_Nw.warmC hW h1 | exact va_Nw.warmD hW h1
  · obtain ⟨a, ha⟩ := h.2.1 q hq
    exact ⟨a, ha.warm hW⟩
theorem gEnv.same {u U : State} (hv : U.vm = u.vm) (h : gEnv u) : gEnv U := by
  refine ⟨fun w hw => ?_, fun q hq => ?_, gAO (hv ▸ Vm.Alike.refl _) h.2.2.1, gAO (hv ▸ Vm.Alike.refl _) h.2.2.2.1, fun q hq => (h.2.2.2.2 q hq).moved (hv ▸ Vm.Alike.refl _)⟩
  · have h1 := h.1 w hw
    have ho : gNW.all Cond.onTables = true := by decide +kernel
    exact va_Nw.same (List.all_eq_true.mp ho w hw) hv.symm h1
  · obtain ⟨a, ha⟩ := h.2.1 q hq
    exact ⟨a, ha.same hv⟩
/-- a contract's start over a whole world -/
def gPc (D : va_G) (tys : List (ClassId × FieldType)) (w0 : va_W) (sz : Nat) (av : List Value) : Array Value → State → Prop := va_Pc av (fun U => U.heap.size = sz ∧ va_P D vwCl w0 U.heap ∧ va_K D vwCl tys U ∧ va_D (fun _ => True) w0 ∧ gEnv U ∧ gZ (va_A w0 sz) U U.heap)
/-- and its end: what it answers, and the world behind it -/
def gQc (D : va_G) (A : Nat → Prop) (post : Option Value → va_W → Prop) : Array Value → State → Outcome → State → Prop := fun _ st oc t => (∃ (v : Option Value) (w1 : va_W), oc = .returned v ∧ post v w1 ∧ va_P D vwCl w1 t.heap ∧ va_D A w1) ∧ va_F A st t
def gXc (D : va_G) (A : Nat → Prop) (px : String → va_W → Prop) : String → State → State → Prop := fun E st t => (∃ w1 : va_W, px E w1 ∧ va_P D vwCl w1 t.heap ∧ va_D A w1) ∧ va_F A st t
def gM (l : Launch) (y : MethodName) (ws : List Cond) (rm : Room) (D : va_G) (tys : List (ClassId × FieldType)) (w0 : va_W) (av : List Value) (mc ms : Nat) (post : Option Value → va_W → Prop) : Prop :=
  ∀ sz, Met l y ws rm (gPc D tys w0 sz av) (gQc D (va_A w0 sz) post) mc ms (va_A w0 sz)
def gX (l : Launch) (y : MethodName) (ws : List Cond) (rm : Room) (D : va_G) (tys : List (ClassId × FieldType)) (w0 : va_W) (av : List Value) (mc ms : Nat) (post : Option Value → va_W → Prop) (px : String → va_W → Prop) : Prop :=
  l.stackTraces = false → ∀ sz, vx_Met l y ws rm (gPc D tys w0 sz av) (gQc D (va_A w0 sz) post) (gXc D (va_A w0 sz) px) mc ms (va_A w0 sz)
/-- what a walk has at hand -/
def gC (p : Program) (s : State) (m : MethodId) (args : Array Value) (meth : Method) (c : Code) (cc : ByteArray) (nL : Nat) (own : String) (Ts : List Cond) (D : va_G) (tys : List (ClassId × FieldType)) (A : Nat → Prop) : Prop :=
  p.tables.exec = Jvm.exec ∧ c.code = cc ∧ c.maxLocals = nL ∧ s.vm.findClass own = some m.cls ∧ (∀ w ∈ Ts, w.before args s = true) ∧ va_K D vwCl tys s ∧ (∀ q, s.heap.size ≤ q → A q) ∧ gEnv s ∧ gZ A s s.heap ∧ meth.locks = false
/-- the goal of a walk -/
def gG (p : Program) (l : Launch) (e : Env) (R : Room) (s : State) (m : MethodId) (args : Array Value) (below : List Frame) (meth : Method) (c : Code) (D : va_G) (A : Nat → Prop) (nL k n : Nat) (Q : State → Prop) (ws : va_W) (pc : Nat) (lv : List (Nat × Value)) (st : List Value) : Prop :=
  ∀ (H : Heap) (locs : List Loc) (ls : Array Slot), va_P D vwCl ws H → va_D A ws → va_S A s.heap H locs → lv_has ls nL lv → W p l e R s m args below meth c H locs k n Q (F0 m pc ls st)
theorem gPc_blind {D : va_G} {tys : List (ClassId × FieldType)} {w0 : va_W} {sz : Nat} {av : List Value} : FrameBlind (gPc D tys w0 sz av) := by
  intro a U g mk h
  obtain ⟨h0, h1, h2, h3, h4, h5, h6, h7⟩ := h
  exact ⟨h0, h1, h2, va_K.moved (u := U) (U := U.calling g mk a) (Vm.Alike.refl U.vm) h3, h4, gEnv.same (u := U) (U := U.calling g mk a) rfl h5, vx_Zq.moved (u := U) (U := U.calling g mk a) (Vm.Alike.refl U.vm) h6, vx_Zq.moved (u := U) (U := U.calling g mk a) (Vm.Alike.refl U.vm) h7⟩
theorem gZ.down {A B : Nat → Prop} {s U : State} {H : Heap} {locs : List Loc} (h : gZ A s s.heap) (hS : va_S A s.heap H locs) (hU : U.heap = H) (hv : s.vm.Alike U.vm) (hB : ∀ q, B q → A q) : gZ B U U.heap := by
  subst hU
  exact ⟨((h.1.moved hv).kept (fun a h1 h2 => hS.2.1 a h1 h2)).narrow hB, ((h.2.moved hv).kept (fun a h1 h2 => hS.2.1 a h1 h2)).narrow hB⟩
section GL
variable {p : Program} {l : Launch} {e : Env} {R : Room} {s : State} {m : MethodId} {args : Array Value} {below : List Frame} {meth : Method} {c : Code}
variable {cc : ByteArray} {nL k n pc : Nat} {own : String} {Ts : List Cond} {D : va_G} {tys : List (ClassId × FieldType)} {A : Nat → Prop} {Q : State → Prop} {ws : va_W} {lv : List (Nat × Value)} {st rest : List Value}
theorem va_A.inA {w : va_W} {H : Heap} {locs : List Loc} (hC : gC p s m args meth c cc nL own Ts D tys A) (hD : va_D A w) (hS : va_S A s.heap H locs) : ∀ q, va_A w H.size q → A q := by
  intro q h
  rcases h with ⟨i, e0, h⟩ | h
  · exact hD.2 i (q, e0) h
  · exact hC.2.2.2.2.2.2.1 q (Nat.le_trans hS.1 h)
/-- a callee's start, out of the caller's walk -/
theorem gPre {As : List Value} {H : Heap} {locs : List Loc} (hC : gC p s m args meth c cc nL own Ts D tys A) (hP : va_P D vwCl ws H) (hD : va_D A ws) (hS : va_S A s.heap H locs) : PreS s H (gPc D tys ws H.size As) As := by
  refine ⟨gPc_blind, fun U hU hW => ⟨rfl, by rw [hU], by rw [hU]; exact hP, va_K.moved hW.alike hC.2.2.2.2.2.1, hD.weaken (fun _ _ _ _ => trivial), hC.2.2.2.2.2.2.2.1.warm hW, ?_⟩⟩
  exact hC.2.2.2.2.2.2.2.2.1.down hS hU hW.alike (va_A.inA hC hD hS)
theorem va_S.call {A0 A1 : Nat → Prop} {H0 H : Heap} {locs L : List Loc} {st₀ t : State} (hS : va_S A0 H0 H locs) (h0 : st₀.heap = H) (hA : ∀ q, A1 q → A0 q) (hL : ∀ q ∈ L, A1 q.base) (hF : va_F A1 st₀ t) : va_S A0 H0 t.heap (locs ++ L) := by
  subst h0
  refine ⟨Nat.le_trans hS.1 hF.1, fun q h1 h2 => ?_, fun q hq => ?_⟩
  · rw [hF.2 q (Nat.lt_of_lt_of_le h1 hS.1) (fun h => h2 (hA q h))]
    exact hS.2.1 q h1 h2
  · rcases List.mem_append.mp hq with h | h
    · exact hS.2.2 q h
    · exact hA _ (hL q h)
theorem gRun {mc ms : Nat} {post : Option Value → va_W → Prop} {a : Array Value} (hC : gC p s m args meth c cc nL own Ts D tys A)
    (hr : ∀ (H : Heap) (locs : List Loc) (ls : Array Slot), va_P D vwCl ws H → va_D A ws → va_S A s.heap H locs → ls.size = nL → va_Run p l e R s m args below meth c H locs k n mc ms (F0 m pc ls st) rest (gQc D (va_A ws H.size) post a) (va_A ws H.size))
    (kk : ∀ (v : Option Value) (w1 : va_W), post v w1 → gG p l e R s m args below meth c D A nL (k + mc) (n + ms) Q w1 (pc + 3) lv (v.toList ++ rest)) : gG p l e R s m args below meth c D A nL k n Q ws pc lv st := by
  intro H locs ls hP hD hS hl T hT X
  obtain ⟨v, st₀, t, T', L, h0, X', hL, e1, e2, ⟨⟨v1, w1, hv, hpost, hP1, hD1⟩, hF⟩, stp⟩ := hr H locs ls hP hD hS hl.1 T hT X
  cases hv
  have hA1 := va_A.inA hC hD hS
  obtain ⟨t2, a1, b1⟩ := kk v w1 hpost t.heap (locs ++ L) ls hP1 (hD1.weaken (fun i q _ h => hA1 _ h)) (hS.call h0 hA1 hL hF) hl T' e1 X'
  exact ⟨t2, stp t2 a1, b1⟩
theorem gRunX {mc ms : Nat} {post : Option Value → va_W → Prop} {px : String → va_W → Prop} {a : Array Value} (hC : gC p s m args meth c cc nL own Ts D tys A)
    (hr : ∀ (H : Heap) (locs : List Loc) (ls : Array Slot), va_P D vwCl ws H → va_D A ws → va_S A s.heap H locs → ls.size = nL → vx_Run p l e R s m args below meth c H locs k n mc ms (F0 m pc ls st) rest (gQc D (va_A ws H.size) post a) (gXc D (va_A ws H.size) px) (va_A ws H.size))
    (kx : ∀ (E : String) (w1 : va_W), px E w1 → ∀ (H : Heap) (locs : List Loc) (ls : Array Slot) (ce : Cell) (q : Addr), va_P D vwCl w1 H → va_D A w1 → va_S A s.heap H locs → lv_has ls nL lv → H[q]? = some ce → ce.vm = .none → s.vm.findClass E = some ce.cls → vx_W p l e R s m args below meth c H locs (k + mc) (n + ms) Q (F0 m pc ls rest) q)
    (kk : ∀ (v : Option Value) (w1 : va_W), post v w1 → gG p l e R s m args below meth c D A nL (k + mc) (n + ms) Q w1 (pc + 3) lv (v.toList ++ rest)) : gG p l e R s m args below meth c D A nL k n Q ws pc lv st := by
  intro H locs ls hP hD hS hl T hT X
  have hA1 := va_A.inA hC hD hS
  rcases hr H locs ls hP hD hS hl.1 T hT X with ⟨v, st₀, t, T', L, h0, X', hL, e1, e2, ⟨⟨v1, w1, hv, hpost, hP1, hD1⟩, hF⟩, stp⟩ | ⟨q, st₀, t, T', L, E, ce, h0, X', hL, e1, e2, ⟨⟨w1, hpx, hP1, hD1⟩, hF⟩, hce, hcv, hcl, stp⟩
  · cases hv
    obtain ⟨t2, a1, b1⟩ := kk v w1 hpost t.heap (locs ++ L) ls hP1 (hD1.weaken (fun i q _ h => hA1 _ h)) (hS.call h0 hA1 hL hF) hl T' e1 X'
    exact ⟨t2, stp t2 a1, b1⟩
  · obtain ⟨t2, a1, b1⟩ := kx E w1 hpx t.heap (locs ++ L) ls ce q hP1 (hD1.weaken (fun i q _ h => hA1 _ h)) (hS.call h0 hA1 hL hF) hl hce hcv hcl T' e1 X'
    exact ⟨t2, stp.trans a1, b1⟩
/-- an exception that leaves this method, which has no handlers -/
theorem gOut {mc ms k n : Nat} {post : Option Value → va_W → Prop} {px : String → va_W → Prop} {w1 : va_W} {H : Heap} {locs : List Loc} {ls : Array Slot} {ce : Cell} {q : Addr} {E : String} (hC : gC p s m args meth c cc nL own Ts D tys A) (hEx : ∀ x ∈ c.exceptionTable.toList, False) (hk : k ≤ mc) (hn : n ≤ ms)
    (hpx : px E w1) (hP : va_P D vwCl w1 H) (hD : va_D A w1) (hS : va_S A s.heap H locs) (hce : H[q]? = some ce) (hcv : ce.vm = .none) (hcl : s.vm.findClass E = some ce.cls) : vx_W p l e R s m args below meth c H locs k n (vx_MQ below (gQc D A post) (gXc D A px) args s mc ms A) (F0 m pc ls rest) q :=
  vx_out (E := E) (fun x hx => (hEx x hx).elim) hC.2.2.2.2.2.2.2.2.2 hce hcv hcl (fun t ht ha => ⟨⟨w1, hpx, by rw [ht]; exact hP, hD⟩, hS.F ht⟩) hS.2.2 hk hn
theorem gCall {mc ms : Nat} {post : Option Value → va_W → Prop} {a : Array Value} (hC : gC p s m args meth c cc nL own Ts D tys A)
    (hr : ∀ (H : Heap) (locs : List Loc) (ls : Array Slot), va_P D vwCl ws H → va_D A ws → va_S A s.heap H locs → ls.size = nL → va_Run p l e R s m args below meth c H locs k n mc ms (F0 m pc ls st) rest (gQc D (va_A ws H.size) post a) (va_A ws H.size))
    (kk : ∀ (v : Option Value) (w1 : va_W), post v w1 → gG p l e R s m args below meth c D A nL (k + mc) (n + ms) Q w1 (pc + 3) lv (v.toList ++ rest)) : gG p l e R s m args below meth c D A nL k n Q ws pc lv st := gRun hC hr kk
section Callees
variable {y : MethodName} {bytes : ByteArray} {maxL mc ms na index : Nat} {ret : Option FieldType} {wsy : List Cond} {rm : Room} {As : List Value} {post : Option Value → va_W → Prop} {px : String → va_W → Prop}
theorem gC.fix (hC : gC p s m args meth c cc nL own Ts D tys A) : CallFix p m c cc nL s args Ts own := ⟨hC.1, hC.2.1, hC.2.2.1, hC.2.2.2.1, hC.2.2.2.2.1⟩
theorem gRecv {ci q0 b : Nat} {q : vw_C} {fs : List Value} {H : Heap} (hC : gC p s m args meth c cc nL own Ts D tys A) (hP : va_P D vwCl ws H) (hc : vwCl[ci]? = some q) (he : ws[q0]? = some (b, .inr (ci, fs))) : ∃ cell : Cell, H[b]? = some cell ∧ cell.vm.isStatics = false ∧ s.vm.findClass q.1 = some cell.cls := va_recv hC.2.2.2.2.2.1 hP hc he
/-- static -/
theorem gS (hC : gC p s m args meth c cc nL own Ts D tys A) (hM : gM l y wsy rm D tys ws As mc ms post) (cw : CallB R s args own index y bytes maxL ret wsy rm mc ms na ∧ (Cond.static y).before args s = true) (hn : As.length = na) (hst : st = As.reverse ++ rest) (hW : (rest.map fun v => v.category).sum ≤ 8) (hdg : decode cc pc = .ok (.invokestatic index, 3)) (hf : k + mc ≤ R.cells ∧ n + ms ≤ R.slots)
    (kk : ∀ (v : Option Value) (w1 : va_W), post v w1 → gG p l e R s m args below meth c D A nL (k + mc) (n + ms) Q w1 (pc + 3) lv (v.toList ++ rest)) : gG p l e R s m args below meth c D A nL k n Q ws pc lv st :=
  gRun hC (fun H locs ls hP hD hS hl => va_runS hC.fix (hM H.size) cw (gPre hC hP hD hS) rfl hn hl hst (by simpa using hW) hdg hf) kk
theorem gSX (hC : gC p s m args meth c cc nL own Ts D tys A) (hEx : ∀ x ∈ c.exceptionTable.toList, False) (hl9 : l.stackTraces = false) (hM : gX l y wsy rm D tys ws As mc ms post px) (cw : CallB R s args own index y bytes maxL ret wsy rm mc ms na ∧ (Cond.static y).before args s = true) (hn : As.length = na) (hst : st = As.reverse ++ rest) (hW : (rest.map fun v => v.category).sum ≤ 8) (hdg : decode cc pc = .ok (.invokestatic index, 3)) (hf : k + mc ≤ R.cells ∧ n + ms ≤ R.slots)
    {mc0 ms0 : Nat} {post0 : Option Value → va_W → Prop} {px0 : String → va_W → Prop} (hQ : Q = vx_MQ below (gQc D A post0) (gXc D A px0) args s mc0 ms0 A) (hk : k + mc ≤ mc0) (hs : n + ms ≤ ms0) (hx : ∀ E w1, px E w1 → px0 E w1)
    (kk : ∀ (v : Option Value) (w1 : va_W), post v w1 → gG p l e R s m args below meth c D A nL (k + mc) (n + ms) Q w1 (pc + 3) lv (v.toList ++ rest)) : gG p l e R s m args below meth c D A nL k n Q ws pc lv st := by
  subst hQ
  exact gRunX hC (fun H locs ls hP hD hS hl => vx_runS hC.fix (hM hl9 H.size) cw (gPre hC hP hD hS) rfl hn hl hst (by simpa using hW) hdg hf) (fun E w1 h H locs ls ce q hP hD hS _ hce hcv hcl => gOut hC hEx hk hs (hx E w1 h) hP hD hS hce hcv hcl) kk
/-- of an object -/
theorem gV {ci q0 b : Nat} {q : vw_C} {fs : List Value} (hC : gC p s m args meth c cc nL own Ts D tys A) (hM : gM l y wsy rm D tys ws (.ref b :: As) mc ms post) (hc : vwCl[ci]? = some q) (he : ws[q0]? = some (b, .inr (ci, fs))) (cw : CallW R s args own q.1 index y bytes maxL ret wsy rm mc ms na) (hn : As.length = na) (hst : st = As.reverse ++ .ref b :: rest) (hW : (rest.map fun v => v.category).sum ≤ 8) (hdg : decode cc pc = .ok (.invokevirtual index, 3)) (hf : k + mc ≤ R.cells ∧ n + ms ≤ R.slots)
    (kk : ∀ (v : Option Value) (w1 : va_W), post v w1 → gG p l e R s m args below meth c D A nL (k + mc) (n + ms) Q w1 (pc + 3) lv (v.toList ++ rest)) : gG p l e R s m args below meth c D A nL k n Q ws pc lv st :=
  gRun hC (fun H locs ls hP hD hS hl => va_runV hC.fix (hM H.size) cw ⟨(gPre hC hP hD hS).1, gRecv hC hP hc he, (gPre hC hP hD hS).2⟩ rfl hn hl hst (by simpa using hW) hdg hf) kk
theorem gVX {ci q0 b : Nat} {q : vw_C} {fs : List Value} (hC : gC p s m args meth c cc nL own Ts D tys A) (hEx : ∀ x ∈ c.exceptionTable.toList, False) (hl9 : l.stackTraces = false) (hM : gX l y wsy rm D tys ws (.ref b :: As) mc ms post px) (hc : vwCl[ci]? = some q) (he : ws[q0]? = some (b, .inr (ci, fs))) (cw : CallW R s args own q.1 index y bytes maxL ret wsy rm mc ms na) (hn : As.length = na) (hst : st = As.reverse ++ .ref b :: rest) (hW : (rest.map fun v => v.category).sum ≤ 8) (hdg : decode cc pc = .ok (.invokevirtual index, 3)) (hf : k + mc ≤ R.cells ∧ n + ms ≤ R.slots)
    {mc0 ms0 : Nat} {post0 : Option Value → va_W → Prop} {px0 : String → va_W → Prop} (hQ : Q = vx_MQ below (gQc D A post0) (gXc D A px0) args s mc0 ms0 A) (hk : k + mc ≤ mc0) (hs : n + ms ≤ ms0) (hx : ∀ E w1, px E w1 → px0 E w1)
    (kk : ∀ (v : Option Value) (w1 : va_W), post v w1 → gG p l e R s m args below meth c D A nL (k + mc) (n + ms) Q w1 (pc + 3) lv (v.toList ++ rest)) : gG p l e R s m args below meth c D A nL k n Q ws pc lv st := by
  subst hQ
  exact gRunX hC (fun H locs ls hP hD hS hl => vx_runV hC.fix (hM hl9 H.size) cw ⟨(gPre hC hP hD hS).1, gRecv hC hP hc he, (gPre hC hP hD hS).2⟩ rfl hn hl hst (by simpa using hW) hdg hf) (fun E w1 h H locs ls ce q hP hD hS _ hce hcv hcl => gOut hC hEx hk hs (hx E w1 h) hP hD hS hce hcv hcl) kk
/-- a nest mate's static method -/
theorem gSN {host : String} (hC : gC p s m args meth c cc nL own Ts D tys A) (hM : gM l y wsy rm D tys ws As mc ms post) (cw : va_CN R s args own index y host bytes maxL ret wsy rm mc ms na ∧ (Cond.static y).before args s = true ∧ True) (hn : As.length = na) (hst : st = As.reverse ++ rest) (hW : (rest.map fun v => v.category).sum ≤ 8) (hdg : decode cc pc = .ok (.invokestatic index, 3)) (hf : k + mc ≤ R.cells ∧ n + ms ≤ R.slots)
    (kk : ∀ (v : Option Value) (w1 : va_W), post v w1 → gG p l e R s m args below meth c D A nL (k + mc) (n + ms) Q w1 (pc + 3) lv (v.toList ++ rest)) : gG p l e R s m args below meth c D A nL k n Q ws pc lv st :=
  gRun hC (fun H locs ls hP hD hS hl => va_runSN hC.fix (hM H.size) cw (gPre hC hP hD hS) rfl hn hl hst (by simpa using hW) hdg hf) kk
end Callees
end GL
