/-! The reference's world: the object, its arrays; the row 4 is its second row to reckon in -/
theorem va_aldA {p : Program} {l : Launch} {e : Env} {R : Room} {s : State} {m : MethodId} {args : Array Value} {below : List Frame} {meth : Method} {c : Code} {H : Heap} {locs : List Loc} {cells slots : Nat} {Q : State → Prop} {cc : ByteArray} {pc : Nat} {ls : Array Slot} {rest : List Value} {D : va_G} {cl : List vw_C} {a : Nat} {tys : List (ClassId × FieldType)} {ws : va_W}
    (hexec : p.tables.exec = Jvm.exec) (hb : c.code = cc) (hK : va_K D cl tys s) (hP : va_P D cl ws H) (q0 t0 : Nat) {cA : ClassId} {ty0 : FieldType} {n : Nat} {f : Nat → Option Nat} (ha : ws[q0]? = some (a, .inl (cA, n, .inr (.inr (.inr (.inr f)))))) (ht : tys[t0]? = some (cA, .array ty0)) {i : Int32} (hin : vp_in i n) (hdg : decode cc pc = .ok (.aaload, 1))
    (kk : W p l e R s m args below meth c H locs cells slots Q (F0 m (pc + 1) ls (va_rf (f i.toNatClampNeg) :: rest))) : W p l e R s m args below meth c H locs cells slots Q (F0 m pc ls (.int i :: .ref a :: rest)) := by
  have hlt : i.toNatClampNeg < n := Nat.not_le.mp fun q => hin (Or.inr q)
  exact W.aald (v := va_rf (f i.toNatClampNeg)) (ty := .array ty0) hexec hb (hP q0 _ ha) ((hK.2 t0 _ ht).1 n (fun j => va_rf (f j))) rfl (fun q => by cases q) (by show ¬ (i < 0 ∨ (arrV _ _ _).slots.size ≤ _); rw [arrV_size]; exact hin) (by show (arrV _ _ _).slots[_]? = _; rw [arrV_read _ _ hlt]) rfl rfl hdg kk
/-- odd, thrown, lengths, made, rows -/
abbrev mSt : Type := Int32 × Int32 × (Nat → Int32) × (Nat → Int32) × (Nat → Nat → Int32)
def mo (μ : mSt) : Int32 := μ.1
def mt (μ : mSt) : Int32 := μ.2.1
def ml (μ : mSt) : Nat → Int32 := μ.2.2.1
def mm (μ : mSt) : Nat → Int32 := μ.2.2.2.1
def mn (μ : mSt) : Nat → Nat → Int32 := μ.2.2.2.2
def mSo (μ : mSt) (v : Int32) : mSt := (v, mt μ, ml μ, mm μ, mn μ)
def mTh (μ : mSt) (v : Int32) : mSt := (mo μ, v, ml μ, mm μ, mn μ)
def mLe (μ : mSt) (f : Nat → Int32) : mSt := (mo μ, mt μ, f, mm μ, mn μ)
def mMa (μ : mSt) (f : Nat → Int32) : mSt := (mo μ, mt μ, ml μ, f, mn μ)
def mRo (μ : mSt) (k : Nat) (f : Nat → Int32) : mSt := (mo μ, mt μ, ml μ, mm μ, vf_upd (mn μ) k f)
/-- object, numbers, lengths, made, rows; the classes of int[] and int[][]; what else lies in the world, what else is known of arrays -/
abbrev mLay : Type := Nat × Nat × Nat × Nat × (Nat → Nat) × ClassId × ClassId × va_W × List (ClassId × FieldType)
def kx (L : mLay) : Nat := L.1
def kn (L : mLay) : Nat := L.2.1
def kl (L : mLay) : Nat := L.2.2.1
def km (L : mLay) : Nat := L.2.2.2.1
def ka (L : mLay) : Nat → Nat := L.2.2.2.2.1
def kI (L : mLay) : ClassId := L.2.2.2.2.2.1
def kJ (L : mLay) : ClassId := L.2.2.2.2.2.2.1
def kX (L : mLay) : va_W := L.2.2.2.2.2.2.2.1
def kT (L : mLay) : List (ClassId × FieldType) := L.2.2.2.2.2.2.2.2
def mTy (L : mLay) : List (ClassId × FieldType) := (kI L, .int) :: (kJ L, .array .int) :: kT L
def mObj (L : mLay) (μ : mSt) : List Value := [.ref (kn L), .ref (kl L), .ref (km L), .ref (ka L 4), .int (mo μ), .int (mt μ)]
def mR (L : mLay) (μ : mSt) (k : Nat) : Nat × va_E := (ka L k, .inl (kI L, 16, .inl (mn μ k)))
def WM (L : mLay) (μ : mSt) : va_W := (kx L, .inr (2, mObj L μ)) :: (kn L, .inl (kJ L, 4, .inr (.inr (.inr (.inr (fun i => some (ka L i))))))) :: (kl L, .inl (kI L, 4, .inl (ml μ))) :: (km L, .inl (kI L, 16, .inl (mm μ))) :: mR L μ 0 :: mR L μ 1 :: mR L μ 2 :: mR L μ 3 :: mR L μ 4 :: kX L
theorem m_five {P : Nat → Prop} {k : Nat} (hk : k < 5) (h0 : P 0) (h1 : P 1) (h2 : P 2) (h3 : P 3) (h4 : P 4) : P k := by
  rcases (show k = 0 ∨ k = 1 ∨ k = 2 ∨ k = 3 ∨ k = 4 by omega) with rfl | rfl | rfl | rfl | rfl <;> assumption
theorem wm_row {L : mLay} {μ : mSt} {k : Nat} (hk : k < 5) : (WM L μ)[4 + k]? = some (ka L k, .inl (kI L, 16, .inl (mn μ k))) :=
  m_five (P := fun k => (WM L μ)[4 + k]? = some (ka L k, .inl (kI L, 16, .inl (mn μ k)))) hk rfl rfl rfl rfl rfl
theorem mR_ne (L : mLay) (μ : mSt) {k j : Nat} (f : Nat → Int32) (h : j ≠ k) : mR L (mRo μ k f) j = mR L μ j := by simp [mR, mRo, mn, vf_upd, h]
theorem mR_eq (L : mLay) (μ : mSt) (k : Nat) (f : Nat → Int32) : mR L (mRo μ k f) k = (ka L k, .inl (kI L, 16, .inl f)) := by simp [mR, mRo, mn, vf_upd]
theorem wm_putRow {L : mLay} {μ : mSt} {k : Nat} (hk : k < 5) (f : Nat → Int32) : (WM L μ).set (4 + k) (ka L k, .inl (kI L, 16, .inl f)) = WM L (mRo μ k f) := by
  refine m_five (P := fun k => (WM L μ).set (4 + k) (ka L k, .inl (kI L, 16, .inl f)) = WM L (mRo μ k f)) hk ?_ ?_ ?_ ?_ ?_ <;>
    (unfold WM; simp only [mR_eq]; repeat rw [mR_ne _ _ _ (by decide)]; rfl)
section MW
variable {p : Program} {l : Launch} {e : Env} {R : Room} {s : State} {m : MethodId} {args : Array Value} {below : List Frame} {meth : Method} {c : Code}
variable {cc : ByteArray} {nL k n pc : Nat} {own : String} {Ts : List Cond} {D : va_G} {L : mLay} {A : Nat → Prop} {Q : State → Prop} {μ : mSt} {lv : List (Nat × Value)} {st : List Value}
theorem mGetArr (hC : gC p s m args meth c cc nL own Ts D (mTy L) A) {i : Nat} (j : Nat) {nm de : String} {a : Nat} (hj : j < 4) (hnm : (TX2 j).2.1 = nm ∧ (TX2 j).2.2.1 = de ∧ (mObj L μ)[j]? = some (.ref a)) (hin : ∀ w ∈ u_ws RX2 TX2 6, w ∈ Ts) (hlink : Cond.fieldLink own i "RootrowsModel" nm de ∈ Ts) (d : decode cc pc = .ok (.getfield i, 3)) (kk : gG p l e R s m args below meth c D A nL k n Q (WM L μ) (pc + 3) lv (.ref a :: st)) : gG p l e R s m args below meth c D A nL k n Q (WM L μ) pc lv (.ref (kx L) :: st) := by
  obtain ⟨h1, h2, h3⟩ := hnm
  subst h1; subst h2
  have h4 : (TX2 j).1 = "RootrowsModel" := by
    rcases (show j = 0 ∨ j = 1 ∨ j = 2 ∨ j = 3 by omega) with rfl | rfl | rfl | rfl <;> rfl
  exact gGet (T := TX2) (N := 6) (C := RX2) (ci := 2) hC hin 0 rfl rfl j (by omega) hlink h4 h3 d kk
theorem mGetInt (hC : gC p s m args meth c cc nL own Ts D (mTy L) A) {i : Nat} (j : Nat) {nm : String} {v : Int32} (hj : 4 ≤ j ∧ j < 6) (hnm : (TX2 j).2.1 = nm ∧ (mObj L μ)[j]? = some (.int v)) (hin : ∀ w ∈ u_ws RX2 TX2 6, w ∈ Ts) (hlink : Cond.fieldLink own i "RootrowsModel" nm "I" ∈ Ts) (d : decode cc pc = .ok (.getfield i, 3)) (kk : gG p l e R s m args below meth c D A nL k n Q (WM L μ) (pc + 3) lv (.int v :: st)) : gG p l e R s m args below meth c D A nL k n Q (WM L μ) pc lv (.ref (kx L) :: st) := by
  obtain ⟨h1, h3⟩ := hnm
  subst h1
  have h4 : (TX2 j).1 = "RootrowsModel" ∧ (TX2 j).2.2.1 = "I" := by
    rcases (show j = 4 ∨ j = 5 by omega) with rfl | rfl <;> exact ⟨rfl, rfl⟩
  exact gGet (T := TX2) (N := 6) (C := RX2) (ci := 2) hC hin 0 rfl rfl j (by omega) (by rw [h4.2]; exact hlink) h4.1 h3 d kk
theorem mPutOdd (hC : gC p s m args meth c cc nL own Ts D (mTy L) A) {i : Nat} {v : Int32} (hin : ∀ w ∈ u_ws RX2 TX2 6, w ∈ Ts) (hlink : Cond.fieldLink own i "RootrowsModel" "odd" "I" ∈ Ts) (d : decode cc pc = .ok (.putfield i, 3)) (kk : gG p l e R s m args below meth c D A nL k n Q (WM L (mSo μ v)) (pc + 3) lv st) : gG p l e R s m args below meth c D A nL k n Q (WM L μ) pc lv (.int v :: .ref (kx L) :: st) :=
  gPut (T := TX2) (N := 6) (C := RX2) (ci := 2) (ty := .int) hC hin tyX2 tyX2_ok nmX2 0 rfl rfl 4 (by decide) hlink rfl rfl (by decide +kernel) rfl rfl (Nat.le_of_ble_eq_true rfl) d rfl kk
theorem mPutThrown (hC : gC p s m args meth c cc nL own Ts D (mTy L) A) {i : Nat} {v : Int32} (hin : ∀ w ∈ u_ws RX2 TX2 6, w ∈ Ts) (hlink : Cond.fieldLink own i "RootrowsModel" "thrown" "I" ∈ Ts) (d : decode cc pc = .ok (.putfield i, 3)) (kk : gG p l e R s m args below meth c D A nL k n Q (WM L (mTh μ v)) (pc + 3) lv st) : gG p l e R s m args below meth c D A nL k n Q (WM L μ) pc lv (.int v :: .ref (kx L) :: st) :=
  gPut (T := TX2) (N := 6) (C := RX2) (ci := 2) (ty := .int) hC hin tyX2 tyX2_ok nmX2 0 rfl rfl 5 (by decide) hlink rfl rfl (by decide +kernel) rfl rfl (Nat.le_of_ble_eq_true rfl) d rfl kk
theorem mRowAld (hC : gC p s m args meth c cc nL own Ts D (mTy L) A) {i : Int32} (j : Nat) (hij : i = nI j) (hj : j < 4) (d : decode cc pc = .ok (.aaload, 1)) (kk : gG p l e R s m args below meth c D A nL k n Q (WM L μ) (pc + 1) lv (.ref (ka L j) :: st)) : gG p l e R s m args below meth c D A nL k n Q (WM L μ) pc lv (.int i :: .ref (kn L) :: st) := by
  subst hij
  exact fun H locs ls hP hD hS hl => va_aldA (ty0 := .int) hC.1 hC.2.1 hC.2.2.2.2.2.1 hP 1 1 rfl rfl (vp_in_nI hj (by decide)) d (by rw [nI_clamp (Nat.lt_trans hj (by decide))]; exact kk H locs ls hP hD hS hl)
theorem mNumLd (hC : gC p s m args meth c cc nL own Ts D (mTy L) A) {K : Nat} {i v : Int32} (hK : K < 5) (j : Nat) (hij : i = nI j) (hj : j < 16) (hv : mn μ K j = v) (d : decode cc pc = .ok (.iaload, 1)) (kk : gG p l e R s m args below meth c D A nL k n Q (WM L μ) (pc + 1) lv (.int v :: st)) : gG p l e R s m args below meth c D A nL k n Q (WM L μ) pc lv (.int i :: .ref (ka L K) :: st) :=
  gIald hC j hij hj (by decide) _ 0 (wm_row hK) rfl hv d kk
theorem mLenLd (hC : gC p s m args meth c cc nL own Ts D (mTy L) A) {i v : Int32} (j : Nat) (hij : i = nI j) (hj : j < 4) (hv : ml μ j = v) (d : decode cc pc = .ok (.iaload, 1)) (kk : gG p l e R s m args below meth c D A nL k n Q (WM L μ) (pc + 1) lv (.int v :: st)) : gG p l e R s m args below meth c D A nL k n Q (WM L μ) pc lv (.int i :: .ref (kl L) :: st) :=
  gIald hC j hij hj (by decide) 2 0 rfl rfl hv d kk
theorem mMadLd (hC : gC p s m args meth c cc nL own Ts D (mTy L) A) {i v : Int32} (j : Nat) (hij : i = nI j) (hj : j < 16) (hv : mm μ j = v) (d : decode cc pc = .ok (.iaload, 1)) (kk : gG p l e R s m args below meth c D A nL k n Q (WM L μ) (pc + 1) lv (.int v :: st)) : gG p l e R s m args below meth c D A nL k n Q (WM L μ) pc lv (.int i :: .ref (km L) :: st) :=
  gIald hC j hij hj (by decide) 3 0 rfl rfl hv d kk
theorem mNumSt (hC : gC p s m args meth c cc nL own Ts D (mTy L) A) {K : Nat} {i x : Int32} {μ' : mSt} (hK : K < 5) (j : Nat) (hij : i = nI j) (hj : j < 16) (hμ : μ' = mRo μ K (upd (mn μ K) j x)) (d : decode cc pc = .ok (.iastore, 1)) (kk : gG p l e R s m args below meth c D A nL k n Q (WM L μ') (pc + 1) lv st) : gG p l e R s m args below meth c D A nL k n Q (WM L μ) pc lv (.int x :: .int i :: .ref (ka L K) :: st) := by
  subst hμ
  exact gIast hC j hij hj (by decide) _ 0 (wm_row hK) rfl d (wm_putRow hK _) kk
theorem mLenSt (hC : gC p s m args meth c cc nL own Ts D (mTy L) A) {i x : Int32} {μ' : mSt} (j : Nat) (hij : i = nI j) (hj : j < 4) (hμ : μ' = mLe μ (upd (ml μ) j x)) (d : decode cc pc = .ok (.iastore, 1)) (kk : gG p l e R s m args below meth c D A nL k n Q (WM L μ') (pc + 1) lv st) : gG p l e R s m args below meth c D A nL k n Q (WM L μ) pc lv (.int x :: .int i :: .ref (kl L) :: st) := by
  subst hμ
  exact gIast hC j hij hj (by decide) 2 0 rfl rfl d rfl kk
theorem mMadSt (hC : gC p s m args meth c cc nL own Ts D (mTy L) A) {i x : Int32} {μ' : mSt} (j : Nat) (hij : i = nI j) (hj : j < 16) (hμ : μ' = mMa μ (upd (mm μ) j x)) (d : decode cc pc = .ok (.iastore, 1)) (kk : gG p l e R s m args below meth c D A nL k n Q (WM L μ') (pc + 1) lv st) : gG p l e R s m args below meth c D A nL k n Q (WM L μ) pc lv (.int x :: .int i :: .ref (km L) :: st) := by
  subst hμ
  exact gIast hC j hij hj (by decide) 3 0 rfl rfl d rfl kk
end MW
def bI (p : Prop) [Decidable p] : Int32 := if p then nI 1 else nI 0
theorem bI_t {p : Prop} [Decidable p] (h : p) : bI p = nI 1 := if_pos h
theorem bI_f {p : Prop} [Decidable p] (h : ¬ p) : bI p = nI 0 := if_neg h
theorem bI_0 {p : Prop} [Decidable p] : bI p = 0 ↔ ¬ p := by
  unfold bI
  by_cases h : p
  · rw [if_pos h]; exact ⟨fun q => absurd q (by decide), fun q => absurd h q⟩
  · rw [if_neg h]; exact ⟨fun _ => h, fun _ => rfl⟩
theorem bI_n {p : Prop} [Decidable p] : ¬ bI p = 0 ↔ p := by rw [bI_0]; exact Decidable.not_not
theorem bI_nar (p : Prop) [Decidable p] (ty : FieldType) (h : ty = .boolean) : narrow ty (.int (bI p)) = .int (bI p) := by
  subst h
  unfold bI
  split <;> rfl
/-- a row of the reference -/
def mIs (μ : mSt) (k n : Nat) (F : Nat → Rg) : Prop := ∀ j, j < n → mn μ k j = nI (F j).val
def mRel (μ : mSt) (Δ : dSt) : Prop := mo μ = nI Δ.1 ∧ okO Δ.1 ∧ ∀ k, k < 4 → okL (Δ.2.1 k) ∧ ml μ k = nI (Δ.2.1 k) ∧ mIs μ k (Δ.2.1 k) (Δ.2.2 k) ∧ ∀ j, Δ.2.1 k ≤ j → j < 16 → mn μ k j = nI 0
/-- exponents -/
def xp (o n : Nat) (z : Int) : Nat := o * st32 n * ix n z % 32
theorem xp_pw {o n : Nat} (hn : okN n) (z : Int) : pw (xp o n z) = pz (un o n * z) := by
  unfold xp
  rw [pw_mod, ← pz_nat]
  rw [pz_per hn z ((ix n z : Nat) : Int) (by rw [ix_cast hn.pos, Int.emod_emod_of_dvd _ (Int.dvd_refl _)])]
  unfold un
  rw [Int.natCast_mul, Int.natCast_mul]
theorem xp_lt (o n : Nat) (z : Int) : xp o n z < 32 := Nat.mod_lt _ (by decide)
theorem j_dbl (u : Rg) {t : Nat} (ht : t < 32) : ((nI u.val).toInt64 <<< ((nI t).toInt64 &&& 63) - (nI u.val).toInt64 <<< ((nI t).toInt64 &&& 63) / 65537 * 65537).toInt32 = nI (u * pw t).val := by
  have h1 := u.isLt
  have h2 : 2 ^ t ≤ 2 ^ 31 := Nat.pow_le_pow_right (by decide) (by omega)
  have h3 : u.val * 2 ^ t ≤ 65536 * 2 ^ 31 := Nat.mul_le_mul (by omega) h2
  rw [nI_l (by omega), wb_shl _ (by omega), j_red (by omega), Fin.val_mul]
  show nI (u.val * 2 ^ t % 65537) = nI (u.val * (2 ^ t % 65537) % 65537)
  rw [Nat.mul_mod_mod]
theorem j_prd (a b d : Rg) : (lN (a.val * b.val) + (nI d.val).toInt64 - (lN (a.val * b.val) + (nI d.val).toInt64) / 65537 * 65537).toInt32 = nI (a * b + d).val := by
  have h1 := j_mulLt a b
  have h2 := d.isLt
  rw [nI_l (by omega), lN_add, j_red (by omega), Fin.val_add, Fin.val_mul, Nat.mod_add_mod]
