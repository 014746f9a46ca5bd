theorem gQf {p : Program} {l : Launch} {e : Env} {R : Room} {s : State} {m : MethodId} {args : Array Value} {below : List Frame} {meth : Method} {c : Code} {D : va_G} {A : Nat → Prop} {nL k n pc : Nat} {Q : State → Prop} {ws ws' : va_W} {lv : List (Nat × Value)} {st : List Value} {a N : Nat} {cA : ClassId} {f f' : Nat → Option Nat} (q0 : Nat) (ha : ws[q0]? = some (a, .inl (cA, N, .inr (.inr (.inr (.inr f)))))) (hf : ∀ i, i < N → f i = f' i) (hw : ws.set q0 (a, .inl (cA, N, .inr (.inr (.inr (.inr f'))))) = ws') (kk : gG p l e R s m args below meth c D A nL k n Q ws' pc lv st) : gG p l e R s m args below meth c D A nL k n Q ws pc lv st := by
  subst hw
  intro H locs ls hP hD hS hl
  refine kk H locs ls (hP.set hD ha ?_ (fun _ _ => rfl)) (hD.set ha) hS hl
  have h1 : H[a]? = some (arrV cA N (fun j => va_rf (f j))) := hP q0 _ ha
  show H[a]? = some (arrV cA N (fun j => va_rf (f' j)))
  rw [h1]
  have e : (Array.ofFn (n := N) fun j => va_rf (f j.val)) = Array.ofFn (n := N) fun j => va_rf (f' j.val) := congrArg Array.ofFn (funext fun j => by rw [hf j.val j.isLt])
  unfold arrV
  rw [e]
theorem gNW_in : ∀ w ∈ gNW, w ∈ lw_tbl := by decide +kernel
theorem gStr_in : ∀ q ∈ gStr, Cond.stringRef RX1 q.1 q.2 ∈ lw_tbl := by decide +kernel
theorem lk_known {s : State} {b : Nat} (hts : ∀ w ∈ lw_tbl, w.before #[Value.ref b] s = true) : ∃ (D : va_G) (cI cR cJ cL cD : ClassId), va_K D vwCl [(cI, .int), (cR, .object "Rootrows$Row"), (cJ, .array .int), (cL, .long), (cD, .double)] s := by
  obtain ⟨c0, i0, h0⟩ := u_known (C := RX0) (T := TX0) (N := 2) (n := 2) hts (by decide +kernel) (hts (.instantiable RX0 2) (by decide +kernel))
  obtain ⟨c1, i1, h1⟩ := u_known (C := RX1) (T := TX1) (N := 8) (n := 8) hts (by decide +kernel) (hts (.instantiable RX1 8) (by decide +kernel))
  obtain ⟨c2, i2, h2⟩ := u_known (C := RX2) (T := TX2) (N := 6) (n := 6) hts (by decide +kernel) (hts (.instantiable RX2 6) (by decide +kernel))
  obtain ⟨cI, kI, pI, a1, a2, a3⟩ := Cond.arrayClass_spec (hts (.arrayClass .int) (by decide +kernel))
  obtain ⟨cL, kL, pL, b1, b2, b3⟩ := Cond.arrayClass_spec (hts (.arrayClass .long) (by decide +kernel))
  obtain ⟨cD, kD, pD, d1, d2, d3⟩ := Cond.arrayClass_spec (hts (.arrayClass .double) (by decide +kernel))
  obtain ⟨pR, cR, kR, r1, r2, r3, r4, r5⟩ := Cond.arrayOver_spec (hts (.arrayOver (.object "Rootrows$Row")) (by decide +kernel))
  obtain ⟨pJ, cJ, kJ, j1, j2, j3, j4⟩ := Cond.arrayOver_specA (hts (.arrayOver (.array .int)) (by decide +kernel))
  refine ⟨(fun k => if k = 0 then c0 else if k = 1 then c1 else c2, fun k => if k = 0 then i0 else if k = 1 then i1 else i2), cI, cR, cJ, cL, cD, ?_, ?_⟩
  · intro k q hq
    match k, hq with
    | 0, hq => cases hq; exact h0
    | 1, hq => cases hq; exact h1
    | 2, hq => cases hq; exact h2
    | k + 3, hq => simp [vwCl] at hq
  · intro k q hq
    match k, hq with
    | 0, hq => cases hq; exact ⟨fun N z => ⟨(fun k h => by cases h), kI, a2, pI, a3⟩, a1⟩
    | 1, hq => cases hq; exact ⟨fun N z => ⟨(fun k h => by cases h), kR, r3, pR, r4⟩, kR, pR, r3, r4, r1, r5⟩
    | 2, hq => cases hq; exact ⟨fun N z => ⟨(fun k h => by cases h), kJ, j2, pJ, j3⟩, j4⟩
    | 3, hq => cases hq; exact ⟨fun N z => ⟨(fun k h => by cases h), kL, b2, pL, b3⟩, b1⟩
    | 4, hq => cases hq; exact ⟨fun N z => ⟨(fun k h => by cases h), kD, d2, pD, d3⟩, d1⟩
    | k + 5, hq => simp at hq
theorem lk_env {s : State} {b : Nat} (hts : ∀ w ∈ lw_tbl, w.before #[Value.ref b] s = true) (hgv : (Jvm.Cond.and given_1 narrow_1).before #[Value.ref b] s = true) : gEnv s := by
  have hs := flat_of_before _ hgv
  have ho : gNW.all Cond.onTables = true := by decide +kernel
  refine ⟨fun w hw => va_Nw.of (List.all_eq_true.mp ho w hw) (hts w (gNW_in w hw)), fun q hq => ?_, va_AO.of (hts (.arrayOver (.object RX0)) (by decide +kernel)), va_AOA.of (hts (.arrayOver (.array .int)) (by decide +kernel)), fun q hq => ?_⟩
  · obtain ⟨cC, kC, hfc, -⟩ := Cond.instantiable_spec (hts (.instantiable RX1 8) (by decide +kernel))
    have h1 := hts _ (gStr_in q hq)
    obtain ⟨k, cf, i, a, -, -, -, -, -, hev⟩ := Cond.stringRef_spec hfc h1
    exact ⟨a, vk_R.of h1 hev⟩
  · simp only [gNo, List.mem_cons, List.not_mem_nil, or_false] at hq
    rcases hq with rfl | rfl | rfl
    · exact va_Nc.of (hs (.not (.castable "java/lang/IllegalArgumentException" "java/lang/IndexOutOfBoundsException")) (by decide +kernel))
    · exact va_Nc.of (hs (.not (.castable "java/lang/IllegalStateException" "java/lang/IndexOutOfBoundsException")) (by decide +kernel))
    · exact va_Nc.of (hs (.not (.castable "java/lang/IllegalStateException" "java/lang/IllegalArgumentException")) (by decide +kernel))
theorem lk_gz {s : State} {b : Nat} (hts : ∀ w ∈ lw_tbl, w.before #[Value.ref b] s = true) (hgv : (Jvm.Cond.and given_1 narrow_1).before #[Value.ref b] s = true) : gZ (fun q : Nat => s.heap.size ≤ q) s s.heap := by
  have hs := flat_of_before _ hgv
  exact ⟨vx_Zqof (hts (.laysStatic "java/lang/Throwable" "UNASSIGNED_STACK" "[Ljava/lang/StackTraceElement;") (by decide +kernel)) (hts (.initialized "java/lang/Throwable") (by decide +kernel)) (hs (.isRef (.static "java/lang/Throwable" "UNASSIGNED_STACK" "[Ljava/lang/StackTraceElement;")) (by decide +kernel)) (fun a h => Nat.not_le.mpr h),
    vx_Zqof (hts (.laysStatic "java/lang/Throwable" "SUPPRESSED_SENTINEL" "Ljava/util/List;") (by decide +kernel)) (hts (.initialized "java/lang/Throwable") (by decide +kernel)) (hs (.isRef (.static "java/lang/Throwable" "SUPPRESSED_SENTINEL" "Ljava/util/List;")) (by decide +kernel)) (fun a h => Nat.not_le.mpr h)⟩
theorem lk_63 (x : Int32) : ∃ j, j < 64 ∧ x &&& nI 63 = nI j := by
  refine ⟨(x.toBitVec &&& 63#32).toNat, ?_, ?_⟩
  · rw [BitVec.toNat_and]
    exact Nat.lt_of_le_of_lt Nat.and_le_right (by decide)
  · apply Int32.toBitVec_inj.mp
    show x.toBitVec &&& (nI 63).toBitVec = BitVec.ofNat 32 _
    rw [BitVec.ofNat_toNat, BitVec.setWidth_eq]
    rfl
theorem lk_len {N t : Nat} (hN : N ≤ 2048) (ht : t ≤ 512) : (nI N - nI 4 < nI (4 * t)) ↔ N < 4 * t + 4 := by
  have e1 : (nI N - nI 4).toInt = (N : Int) - 4 := by
    rw [Int32.toInt_sub, nI_toInt (by omega), nI_toInt (by decide)]
    exact Int.bmod_eq_of_le (by omega) (by omega)
  rw [Int32.lt_iff_toInt_lt, e1, nI_toInt (by omega)]
  omega
theorem lk_rel : cRel ((nI 1, fun _ => nI 2, fun _ _ => 0) : cSt) ((1, fun _ => 2, fun _ _ => 0) : dSt) := by
  refine ⟨rfl, ⟨rfl, by decide⟩, fun k hk => ⟨Or.inl rfl, rfl, fun j hj => rfl⟩⟩
theorem lk_relm {fl : Nat → Int32} (h : ∀ i, i < 4 → fl i = nI 2) : mRel ((nI 1, 0, fl, fun _ => 0, fun _ _ => 0) : mSt) ((1, fun _ => 2, fun _ _ => 0) : dSt) :=
  ⟨rfl, ⟨rfl, by decide⟩, fun k hk => ⟨Or.inl rfl, h k hk, fun j hj => rfl, fun j h1 h2 => rfl⟩⟩
section GT
variable {p : Program} {l : Launch} {e : Env} {R : Room} {s : State} {m : MethodId} {args : Array Value} {below : List Frame} {meth : Method} {c : Code}
variable {cc : ByteArray} {nL k n pc : Nat} {own : String} {Ts : List Cond} {D : va_G} {tys : List (ClassId × FieldType)} {A : Nat → Prop} {Q : State → Prop} {ws : va_W} {lv : List (Nat × Value)} {st : List Value}
theorem gTabOut (hC : gC p s m args meth c cc nL own Ts D tys A) {dflt lo hi : Int} {offs : Array Int} {len : Nat} {x : Int32} {tgt : Nat} (d : decode cc pc = .ok (.tableswitch dflt lo hi offs, len)) (h : x.toInt < lo ∨ hi < x.toInt) (ht : (pc : Int) + dflt = (tgt : Int)) (kk : gG p l e R s m args below meth c D A nL k n Q ws tgt lv st) : gG p l e R s m args below meth c D A nL k n Q ws pc lv (.int x :: st) :=
  fun H locs ls hP hD hS hl => lv_tableOut hC.1 hC.2.1 d h ht (kk H locs ls hP hD hS hl)
theorem gTabIn (hC : gC p s m args meth c cc nL own Ts D tys A) {dflt lo hi : Int} {offs : Array Int} {len : Nat} {x : Int32} {off : Int} {tgt : Nat} (d : decode cc pc = .ok (.tableswitch dflt lo hi offs, len)) (h1 : ¬ x.toInt < lo) (h2 : ¬ hi < x.toInt) (ho : offs[(x.toInt - lo).toNat]? = some off) (ht : (pc : Int) + off = (tgt : Int)) (kk : gG p l e R s m args below meth c D A nL k n Q ws tgt lv st) : gG p l e R s m args below meth c D A nL k n Q ws pc lv (.int x :: st) :=
  fun H locs ls hP hD hS hl => lv_tableIn hC.1 hC.2.1 d h1 h2 ho ht (kk H locs ls hP hD hS hl)
end GT

set_option maxRecDepth 100000 in
set_option maxHeartbeats 4000000 in
theorem lk_loop {p : Program} {l : Launch} {e : Env} {s : State} {m : MethodId} {below : List Frame} {meth : Method} {c : Code} {D : va_G} {b N : Nat} {xs : Nat → Int32} (q : wLay) (hC : gC p s m #[.ref b] meth c cL_law 9 RL wsL_law D (wTy q) (fun r : Nat => s.heap.size ≤ r)) (hX : va_X b N xs s s.heap ∧ b < s.heap.size ∧ ¬ s.heap.size ≤ b) (hl9 : l.stackTraces = false) (hr : meth.sig.returnType = ret) (hN : N ≤ 2048) {σ : cSt} {μ : mSt} {f : Nat → Int64} {g : Nat → UInt64} {Δ : dSt} (hσ : cRel σ Δ) (hμ : mRel μ Δ) : gG p l e room_1 s m #[.ref b] below meth c D (fun r : Nat => s.heap.size ≤ r) 9 40 600 (lw_Z below #[.ref b] s) (WC (LC q f g μ) σ) 28 [(0, .ref b), (1, .ref (wx q)), (2, .ref (wm q)), (3, .ref (wo q)), (4, .ref (wd q)), (5, .int (nI (4 * 0)))] [] := by
  obtain ⟨M, hM⟩ : ∃ M, M = N / 4 := ⟨_, rfl⟩
  refine loopUp (S := cSt × mSt × (Nat → Int64) × (Nat → UInt64) × dSt) (fun t ζ => gG p l e room_1 s m #[.ref b] below meth c D (fun r : Nat => s.heap.size ≤ r) 9 (40 + 8 * t) (600 + 48 * t) (lw_Z below #[.ref b] s) (WC (LC q ζ.2.2.1 ζ.2.2.2.1 ζ.2.1) ζ.1) 28 [(0, .ref b), (1, .ref (wx q)), (2, .ref (wm q)), (3, .ref (wo q)), (4, .ref (wd q)), (5, .int (nI (4 * t)))] []) (fun t ζ => cRel ζ.1 ζ.2.2.2.2 ∧ mRel ζ.2.1 ζ.2.2.2.2) M ?_ ?_ 0 (σ, μ, f, g, Δ) (Nat.zero_le _) ⟨hσ, hμ⟩
  · intro ζ hI
    refine gIload (pc := 28) hC dL_law_28 5 rfl ?_
    refine gAloadN (pc := 30) hC dL_law_30 rfl 0 rfl ?_
    refine gSlen (pc := 31) hC hX dL_law_31 ?_
    refine gIconst (pc := 32) hC (v := (nI 4)) dL_law_32 (by decide +kernel) ?_
    refine gIsub (pc := 33) hC dL_law_33 rfl ?_
    refine gIcmp_gt (tgt := 2921) (pc := 34) hC dL_law_34 (by decide) (fun _ => ?_) (fun h => absurd ((lk_len hN (by omega)).mpr (by omega)) h)
    refine gIconst (pc := 2921) hC (v := (nI 1)) dL_law_2921 (by decide +kernel) ?_
    intro H locs ls hP hD hS hl
    refine va_forget (fun r hr => hS.2.2 r hr) ?_
    refine W.widen (k := 663840) (n := 7104584) (by omega) (by omega) ?_
    exact W.base (lw_ret (Drawn.sameBut.refl s.drawn lw_cs) hC.1 hC.2.1 hr hC.2.2.2.2.2.2.2.2.2 dL_law_2922)
  · intro t ζ ht hI ih
    obtain ⟨σ, μ, f, g, Δ⟩ := ζ
    obtain ⟨hσ, hμ⟩ := hI
    try dsimp only at hσ hμ ih ⊢
    have kk : ∀ (σ' : cSt) (μ' : mSt) (f' : Nat → Int64) (g' : Nat → UInt64) (Δ' : dSt), cRel σ' Δ' → mRel μ' Δ' → gG p l e room_1 s m #[.ref b] below meth c D (fun r : Nat => s.heap.size ≤ r) 9 (40 + 8 * t + 8) (600 + 48 * t + 48) (lw_Z below #[.ref b] s) (WC (LC q f' g' μ') σ') 2915 [(0, .ref b), (1, .ref (wx q)), (2, .ref (wm q)), (3, .ref (wo q)), (4, .ref (wd q)), (5, .int (nI (4 * t)))] [] := by
      intro σ' μ' f' g' Δ' h1 h2
      refine gIinc (v := nI (4 * (t + 1))) (lv' := [(5, .int (nI (4 * (t + 1)))), (0, .ref b), (1, .ref (wx q)), (2, .ref (wm q)), (3, .ref (wo q)), (4, .ref (wd q))]) (pc := 2915) hC dL_law_2915 (q := 5) rfl (nI_add _ _) (by decide) rfl ?_
      refine gGoto (tgt := 28) (pc := 2918) hC dL_law_2918 (by decide) ?_
      refine gLoc (lv' := [(0, .ref b), (1, .ref (wx q)), (2, .ref (wm q)), (3, .ref (wo q)), (4, .ref (wd q)), (5, .int (nI (4 * (t + 1))))]) [1, 2, 3, 4, 5, 0] rfl ?_
      exact gWid (by omega) (by omega) (ih (σ', μ', f', g', Δ') ⟨h1, h2⟩)
    refine gIload (pc := 28) hC dL_law_28 5 rfl ?_
    refine gAloadN (pc := 30) hC dL_law_30 rfl 0 rfl ?_
    refine gSlen (pc := 31) hC hX dL_law_31 ?_
    refine gIconst (pc := 32) hC (v := (nI 4)) dL_law_32 (by decide +kernel) ?_
    refine gIsub (pc := 33) hC dL_law_33 rfl ?_
    refine gIcmp_gt (tgt := 2921) (pc := 34) hC dL_law_34 (by decide) (fun h => absurd ((lk_len hN (by omega)).mp h) (by omega)) (fun _ => ?_)
    refine gAloadN (pc := 37) hC dL_law_37 rfl 0 rfl ?_
    refine gIload (pc := 38) hC dL_law_38 5 rfl ?_
    refine gSld (pc := 40) hC hX (4 * t) rfl (by omega) hN rfl dL_law_40 ?_
    refine gBipush (pc := 41) hC (v := (nI 63)) dL_law_41 (by decide +kernel) ?_
    obtain ⟨j, hj, hx⟩ := lk_63 (xs (4 * t))
    refine gIand (pc := 43) hC dL_law_43 hx ?_
    have hb2 : 4 * t + 4 ≤ N := by omega
    have hk2 : 40 + 8 * t + 8 ≤ 663840 := by omega
    have hn2 : 600 + 48 * t + 48 ≤ 7104584 := by omega
    by_cases hj2 : 41 ≤ j
    · exact gTabOut (tgt := 2915) (pc := 44) hC dL_law_44 (Or.inr (by rw [nI_toInt (by omega)]; omega)) (by decide) (gWid (by omega) (by omega) (kk σ μ f g Δ hσ hμ))
    · rcases (show j = 0 ∨ j = 1 ∨ j = 2 ∨ j = 3 ∨ j = 4 ∨ j = 5 ∨ j = 6 ∨ j = 7 ∨ j = 8 ∨ j = 9 ∨ j = 10 ∨ j = 11 ∨ j = 12 ∨ j = 13 ∨ j = 14 ∨ j = 15 ∨ j = 16 ∨ j = 17 ∨ j = 18 ∨ j = 19 ∨ j = 20 ∨ j = 21 ∨ j = 22 ∨ j = 23 ∨ j = 24 ∨ j = 25 ∨ j = 26 ∨ j = 27 ∨ j = 28 ∨ j = 29 ∨ j = 30 ∨ j = 31 ∨ j = 32 ∨ j = 33 ∨ j = 34 ∨ j = 35 ∨ j = 36 ∨ j = 37 ∨ j = 38 ∨ j = 39 ∨ j = 40 by omega) with rfl | rfl | rfl | rfl | rfl | rfl | rfl | rfl | rfl | rfl | rfl | rfl | rfl | rfl | rfl | rfl | rfl | rfl | rfl | rfl | rfl | rfl | rfl | rfl | rfl | rfl | rfl | rfl | rfl | rfl | rfl | rfl | rfl | rfl | rfl | rfl | rfl | rfl | rfl | rfl | rfl
      · exact gTabIn (off := 180) (tgt := 224) (pc := 44) hC dL_law_44 (by decide) (by decide) rfl (by decide) (lk_0 q hC hX hl9 hN hb2 hk2 hn2 hσ hμ _ _ _ rfl rfl rfl kk)
      · exact gTabIn (off := 248) (tgt := 292) (pc := 44) hC dL_law_44 (by decide) (by decide) rfl (by decide) (lk_1 q hC hX hl9 hN hb2 hk2 hn2 hσ hμ _ _ _ rfl rfl rfl kk)
      · exact gTabIn (off := 328) (tgt := 372) (pc := 44) hC dL_law_44 (by decide) (by decide) rfl (by decide) (lk_2 q hC hX hl9 hN hb2 hk2 hn2 hσ hμ _ _ _ rfl rfl rfl kk)
      · exact gTabIn (off := 408) (tgt := 452) (pc := 44) hC dL_law_44 (by decide) (by decide) rfl (by decide) (lk_3 q hC hX hl9 hN hb2 hk2 hn2 hσ hμ _ _ _ rfl rfl rfl kk)
      · exact gTabIn (off := 483) (tgt := 527) (pc := 44) hC dL_law_44 (by decide) (by decide) rfl (by decide) (lk_4 q hC hX hl9 hN hb2 hk2 hn2 hσ hμ _ _ _ rfl rfl rfl kk)
      · exact gTabIn (off := 539) (tgt := 583) (pc := 44) hC dL_law_44 (by decide) (by decide) rfl (by decide) (lk_5 q hC hX hl9 hN hb2 hk2 hn2 hσ hμ _ _ _ rfl rfl rfl kk)
      · exact gTabIn (off := 607) (tgt := 651) (pc := 44) hC dL_law_44 (by decide) (by decide) rfl (by decide) (lk_6 q hC hX hl9 hN hb2 hk2 hn2 hσ hμ _ _ _ rfl rfl rfl kk)
      · exact gTabIn (off := 663) (tgt := 707) (pc := 44) hC dL_law_44 (by decide) (by decide) rfl (by decide) (lk_7 q hC hX hl9 hN hb2 hk2 hn2 hσ hμ _ _ _ rfl rfl rfl kk)
      · exact gTabIn (off := 719) (tgt := 763) (pc := 44) hC dL_law_44 (by decide) (by decide) rfl (by decide) (lk_8 q hC hX hl9 hN hb2 hk2 hn2 hσ hμ _ _ _ rfl rfl rfl kk)
      · exact gTabIn (off := 787) (tgt := 831) (pc := 44) hC dL_law_44 (by decide) (by decide) rfl (by decide) (lk_9 q hC hX hl9 hN hb2 hk2 hn2 hσ hμ _ _ _ rfl rfl rfl kk)
      · exact gTabIn (off := 871) (tgt := 915) (pc := 44) hC dL_law_44 (by decide) (by decide) rfl (by decide) (lk_10 q hC hX hl9 hN hb2 hk2 hn2 hσ hμ _ _ _ rfl rfl rfl kk)
      · exact gTabIn (off := 927) (tgt := 971) (pc := 44) hC dL_law_44 (by decide) (by decide) rfl (by decide) (lk_11 q hC hX hl9 hN hb2 hk2 hn2 hσ hμ _ _ _ rfl rfl rfl kk)
      · exact gTabIn (off := 995) (tgt := 1039) (pc := 44) hC dL_law_44 (by decide) (by decide) rfl (by decide) (lk_12 q hC hX hl9 hN hb2 hk2 hn2 hσ hμ _ _ _ rfl rfl rfl kk)
      · exact gTabIn (off := 1051) (tgt := 1095) (pc := 44) hC dL_law_44 (by decide) (by decide) rfl (by decide) (lk_13 q hC hX hl9 hN hb2 hk2 hn2 hσ hμ _ _ _ rfl rfl rfl kk)
      · exact gTabIn (off := 1147) (tgt := 1191) (pc := 44) hC dL_law_44 (by decide) (by decide) rfl (by decide) (lk_14 q hC hX hl9 hN hb2 hk2 hn2 hσ hμ _ _ _ rfl rfl rfl kk)
      · exact gTabIn (off := 1215) (tgt := 1259) (pc := 44) hC dL_law_44 (by decide) (by decide) rfl (by decide) (lk_15 q hC hX hl9 hN hb2 hk2 hn2 hσ hμ _ _ _ rfl rfl rfl kk)
      · exact gTabIn (off := 1271) (tgt := 1315) (pc := 44) hC dL_law_44 (by decide) (by decide) rfl (by decide) (lk_16 q hC hX hl9 hN hb2 hk2 hn2 hσ hμ _ _ _ rfl rfl rfl kk)
      · exact gTabIn (off := 1309) (tgt := 1353) (pc := 44) hC dL_law_44 (by decide) (by decide) rfl (by decide) (lk_17 q hC hX hl9 hN hb2 hk2 hn2 hσ hμ _ _ _ rfl rfl rfl kk)
      · exact gTabIn (off := 1377) (tgt := 1421) (pc := 44) hC dL_law_44 (by decide) (by decide) rfl (by decide) (lk_18 q hC hX hl9 hN hb2 hk2 hn2 hσ hμ _ _ _ rfl rfl rfl kk)
      · exact gTabIn (off := 1432) (tgt := 1476) (pc := 44) hC dL_law_44 (by decide) (by decide) rfl (by decide) (lk_19 q hC hX hl9 hN hb2 hk2 hn2 hσ hμ _ _ _ rfl rfl rfl kk)
      · exact gTabIn (off := 1500) (tgt := 1544) (pc := 44) hC dL_law_44 (by decide) (by decide) rfl (by decide) (lk_20 q hC hX hl9 hN hb2 hk2 hn2 hσ hμ _ _ _ rfl rfl rfl kk)
      · exact gTabIn (off := 1568) (tgt := 1612) (pc := 44) hC dL_law_44 (by decide) (by decide) rfl (by decide) (lk_21 q hC hX hl9 hN hb2 hk2 hn2 hσ hμ _ _ _ rfl rfl rfl kk)
      · exact gTabIn (off := 1631) (tgt := 1675) (pc := 44) hC dL_law_44 (by decide) (by decide) rfl (by decide) (lk_22 q hC hX hl9 hN hb2 hk2 hn2 hσ hμ _ _ _ rfl rfl rfl kk)
      · exact gTabIn (off := 1713) (tgt := 1757) (pc := 44) hC dL_law_44 (by decide) (by decide) rfl (by decide) (lk_23 q hC hX hl9 hN hb2 hk2 hn2 hσ hμ _ _ _ rfl rfl rfl kk)
      · exact gTabIn (off := 1781) (tgt := 1825) (pc := 44) hC dL_law_44 (by decide) (by decide) rfl (by decide) (lk_24 q hC hX hl9 hN hb2 hk2 hn2 hσ hμ _ _ _ rfl rfl rfl kk)
      · exact gTabIn (off := 1849) (tgt := 1893) (pc := 44) hC dL_law_44 (by decide) (by decide) rfl (by decide) (lk_25 q hC hX hl9 hN hb2 hk2 hn2 hσ hμ _ _ _ rfl rfl rfl kk)
      · exact gTabIn (off := 1905) (tgt := 1949) (pc := 44) hC dL_law_44 (by decide) (by decide) rfl (by decide) (lk_26 q hC hX hl9 hN hb2 hk2 hn2 hσ hμ _ _ _ rfl rfl rfl kk)
      · exact gTabIn (off := 1961) (tgt := 2005) (pc := 44) hC dL_law_44 (by decide) (by decide) rfl (by decide) (lk_27 q hC hX hl9 hN hb2 hk2 hn2 hσ hμ _ _ _ rfl rfl rfl kk)
      · exact gTabIn (off := 2017) (tgt := 2061) (pc := 44) hC dL_law_44 (by decide) (by decide) rfl (by decide) (lk_28 q hC hX hl9 hN hb2 hk2 hn2 hσ hμ _ _ _ rfl rfl rfl kk)
      · exact gTabIn (off := 2113) (tgt := 2157) (pc := 44) hC dL_law_44 (by decide) (by decide) rfl (by decide) (lk_29 q hC hX hl9 hN hb2 hk2 hn2 hσ hμ _ _ _ rfl rfl rfl kk)
      · exact gTabIn (off := 2190) (tgt := 2234) (pc := 44) hC dL_law_44 (by decide) (by decide) rfl (by decide) (lk_30 q hC hX hl9 hN hb2 hk2 hn2 hσ hμ _ _ _ rfl rfl rfl kk)
      · exact gTabIn (off := 2268) (tgt := 2312) (pc := 44) hC dL_law_44 (by decide) (by decide) rfl (by decide) (lk_31 q hC hX hl9 hN hb2 hk2 hn2 hσ hμ _ _ _ rfl rfl rfl kk)
      · exact gTabIn (off := 2331) (tgt := 2375) (pc := 44) hC dL_law_44 (by decide) (by decide) rfl (by decide) (lk_32 q hC hX hl9 hN hb2 hk2 hn2 hσ hμ _ _ _ rfl rfl rfl kk)
      · exact gTabIn (off := 2406) (tgt := 2450) (pc := 44) hC dL_law_44 (by decide) (by decide) rfl (by decide) (lk_33 q hC hX hl9 hN hb2 hk2 hn2 hσ hμ _ _ _ rfl rfl rfl kk)
      · exact gTabIn (off := 2481) (tgt := 2525) (pc := 44) hC dL_law_44 (by decide) (by decide) rfl (by decide) (lk_34 q hC hX hl9 hN hb2 hk2 hn2 hσ hμ _ _ _ rfl rfl rfl kk)
      · exact gTabIn (off := 2556) (tgt := 2600) (pc := 44) hC dL_law_44 (by decide) (by decide) rfl (by decide) (lk_35 q hC hX hl9 hN hb2 hk2 hn2 hσ hμ _ _ _ rfl rfl rfl kk)
      · exact gTabIn (off := 2643) (tgt := 2687) (pc := 44) hC dL_law_44 (by decide) (by decide) rfl (by decide) (lk_36 q hC hX hl9 hN hb2 hk2 hn2 hσ hμ _ _ _ rfl rfl rfl kk)
      · exact gTabIn (off := 2718) (tgt := 2762) (pc := 44) hC dL_law_44 (by decide) (by decide) rfl (by decide) (lk_37 q hC hX hl9 hN hb2 hk2 hn2 hσ hμ _ _ _ rfl rfl rfl kk)
      · exact gTabIn (off := 2781) (tgt := 2825) (pc := 44) hC dL_law_44 (by decide) (by decide) rfl (by decide) (lk_38 q hC hX hl9 hN hb2 hk2 hn2 hσ hμ _ _ _ rfl rfl rfl kk)
      · exact gTabIn (off := 2844) (tgt := 2888) (pc := 44) hC dL_law_44 (by decide) (by decide) rfl (by decide) (lk_39 q hC hX hl9 hN hb2 hk2 hn2 hσ hμ _ _ _ rfl rfl rfl kk)
      · exact gTabIn (off := 2857) (tgt := 2901) (pc := 44) hC dL_law_44 (by decide) (by decide) rfl (by decide) (lk_40 q hC hX hl9 hN hb2 hk2 hn2 hσ hμ _ _ _ rfl rfl rfl kk)
set_option maxRecDepth 100000 in
set_option maxHeartbeats 4000000 in
theorem whole_start {p : Program} {e : Env} {s : State} {m : MethodId} {below : List Frame} {meth : Method} {c : Code} (l : Launch) (hflags : l.flags = flags0) {b L : Nat} {xs : Nat → Int32} (hL : L ≤ 2048) (C0 : lw_At p s m meth c b L xs) : W p l e room_1 s m #[Value.ref b] below meth c s.heap [] 0 0 (lw_Z below #[Value.ref b] s) (entryFrame m ([Value.ref b] : List Value).toArray 9) := by
  obtain ⟨hx, hb, hr, hml, hown, hts, hX, hbl, hlocks, hgv⟩ := C0
  have hl9 : l.stackTraces = false := by unfold Launch.stackTraces; rw [hflags]; decide +kernel
  obtain ⟨D, cI, cR, cJ, cL, cD, hK⟩ := lk_known hts
  have hC : gC p s m #[.ref b] meth c cL_law 9 RL wsL_law D [(cI, .int), (cR, .object "Rootrows$Row"), (cJ, .array .int), (cL, .long), (cD, .double)] (fun r : Nat => s.heap.size ≤ r) := ⟨hx, hb, hml, hown, fun w hw => hts w (wsL_law_in w hw), hK, fun _ h => h, lk_env hts hgv, lk_gz hts hgv, hlocks⟩
  have hX2 : va_X b L xs s s.heap ∧ b < s.heap.size ∧ ¬ s.heap.size ≤ b := ⟨hX, hbl, Nat.not_le.mpr hbl⟩
  have hin1 : ∀ w ∈ u_ws RX1 TX1 8, w ∈ wsL_law := by decide +kernel
  have hin2 : ∀ w ∈ u_ws RX2 TX2 6, w ∈ wsL_law := by decide +kernel
  suffices K : gG p l e room_1 s m #[.ref b] below meth c D (fun r : Nat => s.heap.size ≤ r) 9 0 0 (lw_Z below #[.ref b] s) [] 0 [(0, .ref b)] [] by
    have hl := lv_entry ([.ref b]) (n := 9) (Nat.le_of_ble_eq_true rfl)
    rw [lg_entry_eq]
    exact K s.heap [] _ (fun k q h => by simp at h) ⟨fun i j p q h => by simp at h, fun k q h => by simp at h⟩ va_S.rf hl
  refine gNew (T := TX1) (N := 8) (C := RX1) (ci := 1) (fs := [.null, .null, .null, .null, .null, .null, .null, .int 0]) (pc := 0) hC hin1 tyX1 tyX1_ok (by decide +kernel) (by decide +kernel) (by decide +kernel) rfl (by intro j hj; rcases (show j = 0 ∨ j = 1 ∨ j = 2 ∨ j = 3 ∨ j = 4 ∨ j = 5 ∨ j = 6 ∨ j = 7 by omega) with rfl | rfl | rfl | rfl | rfl | rfl | rfl | rfl <;> rfl) (Nat.le_of_ble_eq_true rfl) (Nat.le_of_ble_eq_true rfl) dL_law_0 (fun x => ?_)
  refine gDup (pc := 3) hC dL_law_3 rfl ?_
  refine gII (pc := 4) (rest := [.ref x]) hC (c_X1_init l D [(cI, .int), (cR, .object "Rootrows$Row"), (cJ, .array .int), (cL, .long), (cD, .double)] [] x cI 0 rfl cR 1 rfl) (cwI 0 hC.2.2.2.2.1 gL_law_X1_init rfl rfl rfl (hC.2.2.2.2.1 (.initialized RX1) (by decide +kernel)) (hC.2.2.2.2.1 (.methodLink RL 141 yX1_init) (by decide +kernel)) (hC.2.2.2.2.1 (.instanceMethod yX1_init) (by decide +kernel)) rfl (by decide +kernel) ⟨Nat.le_of_ble_eq_true rfl, Nat.le_of_ble_eq_true rfl⟩) rfl rfl (Nat.le_of_ble_eq_true rfl) dL_law_4 ⟨Nat.le_of_ble_eq_true rfl, Nat.le_of_ble_eq_true rfl⟩ (fun v w1 hp => ?_)
  obtain ⟨rfl, gg, a, bb, fa, hfa, rfl⟩ := hp
  refine gQf (f' := (fun i => some (a i))) 1 rfl hfa (ws' := [(x, .inr (1, [.ref gg, .ref (a 4), .ref (a 5), .ref (a 6), .ref (a 7), .ref (a 8), .ref (a 9), .int (nI 1)])), (gg, .inl (cR, 4, .inr (.inr (.inr (.inr (fun i => some (a i))))))), (a 4, .inr (0, [.ref (bb 4), .int (nI 2)])), (bb 4, .inl (cI, 16, .inl (fun _ => 0))), (a 5, .inr (0, [.ref (bb 5), .int (nI 2)])), (bb 5, .inl (cI, 16, .inl (fun _ => 0))), (a 6, .inr (0, [.ref (bb 6), .int (nI 2)])), (bb 6, .inl (cI, 16, .inl (fun _ => 0))), (a 7, .inr (0, [.ref (bb 7), .int (nI 2)])), (bb 7, .inl (cI, 16, .inl (fun _ => 0))), (a 8, .inr (0, [.ref (bb 8), .int (nI 2)])), (bb 8, .inl (cI, 16, .inl (fun _ => 0))), (a 9, .inr (0, [.ref (bb 9), .int (nI 2)])), (bb 9, .inl (cI, 16, .inl (fun _ => 0))), (a 0, .inr (0, [.ref (bb 0), .int (nI 2)])), (bb 0, .inl (cI, 16, .inl (fun _ => 0))), (a 1, .inr (0, [.ref (bb 1), .int (nI 2)])), (bb 1, .inl (cI, 16, .inl (fun _ => 0))), (a 2, .inr (0, [.ref (bb 2), .int (nI 2)])), (bb 2, .inl (cI, 16, .inl (fun _ => 0))), (a 3, .inr (0, [.ref (bb 3), .int (nI 2)])), (bb 3, .inl (cI, 16, .inl (fun _ => 0)))]) rfl ?_
  refine gStk (st' := [.ref x]) (pc' := 7) rfl rfl ?_
  refine gAstoreN (pc := 7) hC (lv' := [(1, .ref x), (0, .ref b)]) dL_law_7 rfl (by decide) rfl ?_
  refine gNew (T := TX2) (N := 6) (C := RX2) (ci := 2) (fs := [.null, .null, .null, .null, .int 0, .int 0]) (pc := 8) hC hin2 tyX2 tyX2_ok (by decide +kernel) (by decide +kernel) (by decide +kernel) rfl (by intro j hj; rcases (show j = 0 ∨ j = 1 ∨ j = 2 ∨ j = 3 ∨ j = 4 ∨ j = 5 by omega) with rfl | rfl | rfl | rfl | rfl | rfl <;> rfl) (Nat.le_of_ble_eq_true rfl) (Nat.le_of_ble_eq_true rfl) dL_law_8 (fun y => ?_)
  refine gDup (pc := 11) hC dL_law_11 rfl ?_
  refine gII (pc := 12) (rest := [.ref y]) hC (c_X2_init l D [(cI, .int), (cR, .object "Rootrows$Row"), (cJ, .array .int), (cL, .long), (cD, .double)] [(x, .inr (1, [.ref gg, .ref (a 4), .ref (a 5), .ref (a 6), .ref (a 7), .ref (a 8), .ref (a 9), .int (nI 1)])), (gg, .inl (cR, 4, .inr (.inr (.inr (.inr (fun i => some (a i))))))), (a 4, .inr (0, [.ref (bb 4), .int (nI 2)])), (bb 4, .inl (cI, 16, .inl (fun _ => 0))), (a 5, .inr (0, [.ref (bb 5), .int (nI 2)])), (bb 5, .inl (cI, 16, .inl (fun _ => 0))), (a 6, .inr (0, [.ref (bb 6), .int (nI 2)])), (bb 6, .inl (cI, 16, .inl (fun _ => 0))), (a 7, .inr (0, [.ref (bb 7), .int (nI 2)])), (bb 7, .inl (cI, 16, .inl (fun _ => 0))), (a 8, .inr (0, [.ref (bb 8), .int (nI 2)])), (bb 8, .inl (cI, 16, .inl (fun _ => 0))), (a 9, .inr (0, [.ref (bb 9), .int (nI 2)])), (bb 9, .inl (cI, 16, .inl (fun _ => 0))), (a 0, .inr (0, [.ref (bb 0), .int (nI 2)])), (bb 0, .inl (cI, 16, .inl (fun _ => 0))), (a 1, .inr (0, [.ref (bb 1), .int (nI 2)])), (bb 1, .inl (cI, 16, .inl (fun _ => 0))), (a 2, .inr (0, [.ref (bb 2), .int (nI 2)])), (bb 2, .inl (cI, 16, .inl (fun _ => 0))), (a 3, .inr (0, [.ref (bb 3), .int (nI 2)])), (bb 3, .inl (cI, 16, .inl (fun _ => 0)))] y cI 0 rfl cJ 2 rfl) (cwI 0 hC.2.2.2.2.1 gL_law_X2_init rfl rfl rfl (hC.2.2.2.2.1 (.initialized RX2) (by decide +kernel)) (hC.2.2.2.2.1 (.methodLink RL 144 yX2_init) (by decide +kernel)) (hC.2.2.2.2.1 (.instanceMethod yX2_init) (by decide +kernel)) rfl (by decide +kernel) ⟨Nat.le_of_ble_eq_true rfl, Nat.le_of_ble_eq_true rfl⟩) rfl rfl (Nat.le_of_ble_eq_true rfl) dL_law_12 ⟨Nat.le_of_ble_eq_true rfl, Nat.le_of_ble_eq_true rfl⟩ (fun v w1 hp => ?_)
  obtain ⟨rfl, qn, ln, md, ot, r9, fl, hfl, rfl⟩ := hp
  refine gQf (f' := (fun i => some (if i < 4 then r9 i else ot))) 23 rfl (fun i hi => by rw [if_pos hi, if_pos hi]) (ws' := [(x, .inr (1, [.ref gg, .ref (a 4), .ref (a 5), .ref (a 6), .ref (a 7), .ref (a 8), .ref (a 9), .int (nI 1)])), (gg, .inl (cR, 4, .inr (.inr (.inr (.inr (fun i => some (a i))))))), (a 4, .inr (0, [.ref (bb 4), .int (nI 2)])), (bb 4, .inl (cI, 16, .inl (fun _ => 0))), (a 5, .inr (0, [.ref (bb 5), .int (nI 2)])), (bb 5, .inl (cI, 16, .inl (fun _ => 0))), (a 6, .inr (0, [.ref (bb 6), .int (nI 2)])), (bb 6, .inl (cI, 16, .inl (fun _ => 0))), (a 7, .inr (0, [.ref (bb 7), .int (nI 2)])), (bb 7, .inl (cI, 16, .inl (fun _ => 0))), (a 8, .inr (0, [.ref (bb 8), .int (nI 2)])), (bb 8, .inl (cI, 16, .inl (fun _ => 0))), (a 9, .inr (0, [.ref (bb 9), .int (nI 2)])), (bb 9, .inl (cI, 16, .inl (fun _ => 0))), (a 0, .inr (0, [.ref (bb 0), .int (nI 2)])), (bb 0, .inl (cI, 16, .inl (fun _ => 0))), (a 1, .inr (0, [.ref (bb 1), .int (nI 2)])), (bb 1, .inl (cI, 16, .inl (fun _ => 0))), (a 2, .inr (0, [.ref (bb 2), .int (nI 2)])), (bb 2, .inl (cI, 16, .inl (fun _ => 0))), (a 3, .inr (0, [.ref (bb 3), .int (nI 2)])), (bb 3, .inl (cI, 16, .inl (fun _ => 0)))] ++ [(y, .inr (2, [.ref qn, .ref ln, .ref md, .ref ot, .int (nI 1), .int 0])), (qn, .inl (cJ, 4, .inr (.inr (.inr (.inr (fun i => some (if i < 4 then r9 i else ot))))))), (r9 0, .inl (cI, 16, .inl (fun _ => 0))), (r9 1, .inl (cI, 16, .inl (fun _ => 0))), (r9 2, .inl (cI, 16, .inl (fun _ => 0))), (r9 3, .inl (cI, 16, .inl (fun _ => 0))), (ln, .inl (cI, 4, .inl fl)), (md, .inl (cI, 16, .inl (fun _ => 0))), (ot, .inl (cI, 16, .inl (fun _ => 0)))]) rfl ?_
  refine gStk (st' := [.ref y]) (pc' := 15) rfl rfl ?_
  refine gAstoreN (pc := 15) hC (lv' := [(2, .ref y), (1, .ref x), (0, .ref b)]) dL_law_15 rfl (by decide) rfl ?_
  refine gIconst (pc := 16) hC (v := (nI 1)) dL_law_16 (by decide +kernel) ?_
  refine gNewL (pc := 17) (N' := 1) (t0 := 3) hC (by decide +kernel) rfl (by decide) (by decide) (Nat.le_of_ble_eq_true rfl) (Nat.le_of_ble_eq_true rfl) (Nat.le_of_ble_eq_true rfl) dL_law_17 (fun o => ?_)
  refine gAstoreN (pc := 19) hC (lv' := [(3, .ref o), (2, .ref y), (1, .ref x), (0, .ref b)]) dL_law_19 rfl (by decide) rfl ?_
  refine gIconst (pc := 20) hC (v := (nI 1)) dL_law_20 (by decide +kernel) ?_
  refine gNewD (pc := 21) (N' := 1) (t0 := 4) hC (by decide +kernel) rfl (by decide) (by decide) (Nat.le_of_ble_eq_true rfl) (Nat.le_of_ble_eq_true rfl) (Nat.le_of_ble_eq_true rfl) dL_law_21 (fun d => ?_)
  refine gAstore (pc := 23) hC (lv' := [(4, .ref d), (3, .ref o), (2, .ref y), (1, .ref x), (0, .ref b)]) dL_law_23 (by decide) rfl ?_
  refine gIconst (pc := 25) hC (v := (nI 0)) dL_law_25 (by decide +kernel) ?_
  refine gIstore (pc := 26) hC (lv' := [(5, .int (nI 0)), (4, .ref d), (3, .ref o), (2, .ref y), (1, .ref x), (0, .ref b)]) dL_law_26 (by decide) rfl ?_
  refine gPerm (ws' := WC (LC ((x, gg, a, bb, cI, cR), (y, qn, ln, md, (fun i => if i < 4 then r9 i else ot), cJ), o, d, cL, cD) (fun _ => 0) (fun _ => 0) ((nI 1, 0, fl, fun _ => 0, fun _ _ => 0) : mSt)) ((nI 1, fun _ => nI 2, fun _ _ => 0) : cSt)) [0, 1, 14, 15, 16, 17, 18, 19, 20, 21, 2, 3, 4, 5, 6, 7, 8, 9, 10, 11, 12, 13, 31, 32, 22, 23, 28, 29, 24, 25, 26, 27, 30] rfl (by decide) ?_
  refine gLoc (lv' := [(0, .ref b), (1, .ref x), (2, .ref y), (3, .ref o), (4, .ref d), (5, .int (nI 0))]) [5, 4, 3, 2, 1, 0] rfl ?_
  exact gWid (Nat.le_of_ble_eq_true rfl) (Nat.le_of_ble_eq_true rfl) (lk_loop ((x, gg, a, bb, cI, cR), (y, qn, ln, md, (fun i => if i < 4 then r9 i else ot), cJ), o, d, cL, cD) hC hX2 hl9 hr hL lk_rel (lk_relm hfl))

