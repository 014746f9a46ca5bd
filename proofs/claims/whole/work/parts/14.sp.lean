/-! what the class's walks say of rows -/
def cSame (σ σ' : cSt) (k : Nat) : Prop := σ'.1 = σ.1 ∧ ∀ q, q ≠ k → σ'.2.1 q = σ.2.1 q ∧ σ'.2.2 q = σ.2.2 q
def rowIs (σ : cSt) (k n : Nat) (F : Nat → Rg) : Prop := σ.2.1 k = nI n ∧ ∀ j, j < n → σ.2.2 k j = nI (F j).val
def okN (n : Nat) : Prop := n = 1 ∨ n = 2 ∨ n = 4 ∨ n = 8 ∨ n = 16
theorem okN.le {n : Nat} (h : okN n) : n ≤ 16 := by unfold okN at h; omega
theorem okN.pos {n : Nat} (h : okN n) : 0 < n := by unfold okN at h; omega
theorem cSame.rf (σ : cSt) (k : Nat) : cSame σ σ k := ⟨rfl, fun _ _ => ⟨rfl, rfl⟩⟩
theorem cSame.tr {σ σ' σ2 : cSt} {k : Nat} (h : cSame σ σ' k) (h2 : cSame σ' σ2 k) : cSame σ σ2 k := ⟨h2.1.trans h.1, fun q hq => ⟨(h2.2 q hq).1.trans (h.2 q hq).1, (h2.2 q hq).2.trans (h.2 q hq).2⟩⟩
theorem cSame.sz (σ : cSt) (k : Nat) (v : Int32) : cSame σ (cSz σ k v) k := ⟨rfl, fun q hq => ⟨by simp [cSz, upd, hq], rfl⟩⟩
theorem cSame.nm (σ : cSt) (k : Nat) (f : Nat → Int32) : cSame σ (cNm σ k f) k := ⟨rfl, fun q hq => ⟨rfl, by simp [cNm, vf_upd, hq]⟩⟩
theorem rowIs.kept {σ σ' : cSt} {k q n : Nat} {F : Nat → Rg} (h : rowIs σ q n F) (hs : cSame σ σ' k) (hq : q ≠ k) : rowIs σ' q n F := ⟨(hs.2 q hq).1.trans h.1, fun j hj => by rw [(hs.2 q hq).2]; exact h.2 j hj⟩
theorem cSz_at (σ : cSt) (k : Nat) (v : Int32) : (cSz σ k v).2.1 k = v := by simp [cSz, upd]
theorem cSz_nm (σ : cSt) (k : Nat) (v : Int32) : (cSz σ k v).2.2 = σ.2.2 := rfl
theorem cNm_at (σ : cSt) (k : Nat) (f : Nat → Int32) : (cNm σ k f).2.2 k = f := by simp [cNm, vf_upd]
theorem cNm_sz (σ : cSt) (k : Nat) (f : Nat → Int32) : (cNm σ k f).2.1 = σ.2.1 := rfl
theorem upd_at (f : Nat → Int32) (k : Nat) (x : Int32) : upd f k x k = x := by simp [upd]
theorem upd_ne (f : Nat → Int32) {k j : Nat} (x : Int32) (h : j ≠ k) : upd f k x j = f j := by simp [upd, h]
theorem rowIs.cong {σ : cSt} {k n : Nat} {F G : Nat → Rg} (h : rowIs σ k n F) (hFG : ∀ j, j < n → F j = G j) : rowIs σ k n G := ⟨h.1, fun j hj => by rw [← hFG j hj]; exact h.2 j hj⟩
/-! numbers: what one Java operation does -/
theorem j_add (u v : Rg) {x y : Int32} (hx : x = nI u.val) (hy : y = nI v.val) : (x + y) - (x + y) / 65537 * 65537 = nI (u + v).val := by
  subst hx; subst hy
  rw [nI_add, show (65537 : Int32) = nI 65537 from rfl, pk_rem (by have := u.isLt; have := v.isLt; omega) (by decide) (by decide)]
  rfl
theorem j_sub (u v : Rg) {x y : Int32} (hx : x = nI u.val) (hy : y = nI v.val) : (x + 65537 - y) - (x + 65537 - y) / 65537 * 65537 = nI (u - v).val := by
  subst hx; subst hy
  have h1 := u.isLt
  have h2 := v.isLt
  rw [show (65537 : Int32) = nI 65537 from rfl, nI_add, pk_sub (by omega), pk_rem (by omega) (by decide) (by decide)]
  rw [show (u - v).val = ((65537 - v.val) + u.val) % 65537 from rfl]
  congr 2
  omega
theorem j_red {t : Nat} (ht : t < 2 ^ 63) : (lN t - lN t / 65537 * 65537).toInt32 = nI (t % 65537) := by
  rw [show (65537 : Int64) = lN 65537 from rfl, pk_lRem ht (by decide) (by decide), lN_i]
theorem j_mul (u v : Rg) {x y : Int32} (hx : x = nI u.val) (hy : y = nI v.val) : x.toInt64 * y.toInt64 = lN (u.val * v.val) := by
  subst hx; subst hy
  rw [nI_l (by have := u.isLt; omega), nI_l (by have := v.isLt; omega), lN_mul]
theorem j_mulLt (u v : Rg) : u.val * v.val < 2 ^ 33 := by
  have h := Nat.mul_le_mul (Nat.le_of_lt_succ u.isLt) (Nat.le_of_lt_succ v.isLt)
  omega
theorem cCopy {p : Program} {l : Launch} {e : Env} {R : Room} {s : State} {m : MethodId} {args : Array Value} {below : List Frame} {meth : Method} {c : Code} {cc : ByteArray} {nL k n pc : Nat} {own : String} {Ts : List Cond} {D : va_G} {L : cLay} {A : Nat → Prop} {Q : State → Prop} {σ σ' : cSt} {lv : List (Nat × Value)} {st : List Value}
    (hC : gC p s m args meth c cc nL own Ts D (cTy L) A) {K J index : Nat} {sp dp n0 : Int32} (hK : K < 10) (hJ : J < 10) (a b N : Nat) (hsp : sp = nI a) (hdp : dp = nI b) (hn : n0 = nI N) (h4 : a + N ≤ 16) (h5 : b + N ≤ 16) (hlink : Cond.methodLink own index arraycopyName ∈ Ts) (hnat : Cond.native arraycopyName ∈ Ts) (hstat : Cond.static arraycopyName ∈ Ts) (hini : Cond.initialized "java/lang/System" ∈ Ts)
    (hframes : 1 ≤ R.frames) (hlocals : (st.map fun v => v.category).sum + (nativeFrameWords "java/lang/System" "arraycopy" 5 + 11) ≤ R.locals) (hσ : σ' = cNm σ K (va_cpy (σ.2.2 J) (σ.2.2 K) a b N)) (d : decode cc pc = .ok (.invokestatic index, 3))
    (kk : gG p l e R s m args below meth c D A nL k n Q (WC L σ') (pc + 3) lv st) : gG p l e R s m args below meth c D A nL k n Q (WC L σ) pc lv (.int n0 :: .int dp :: .ref (lb L K) :: .int sp :: .ref (lb L J) :: st) := by
  subst hσ; subst hsp; subst hdp; subst hn
  intro H locs ls hP hD hS hl
  have ca : (nI a).toNatClampNeg = a := nI_clamp (by omega)
  have cb : (nI b).toNatClampNeg = b := nI_clamp (by omega)
  have cN : (nI N).toNatClampNeg = N := nI_clamp (by omega)
  refine va_copyi (ty := .int) hC.1 hC.2.1 (hC.2.2.1.trans hl.1.symm) hC.2.2.2.1 (hC.2.2.2.2.1 _ hlink) (hC.2.2.2.2.1 _ hnat) (hC.2.2.2.2.1 _ hstat) (hC.2.2.2.2.1 _ hini) hC.2.2.2.2.2.1 hP hD hS (3 + 2 * J) (3 + 2 * K) 0 0 (wc_num hJ) (wc_num hK) rfl rfl rfl (nI_pos (by omega)) (nI_pos (by omega)) (nI_pos (by omega)) (by rw [ca, cN]; exact h4) (by rw [cb, cN]; exact h5) (fun _ _ => rfl) hframes hlocals d (fun H1 locs1 hP1 hD1 hS1 => ?_)
  rw [ca, cb, cN, wc_putNum hK] at hP1 hD1
  exact kk H1 locs1 ls hP1 hD1 hS1 hl
/-- places by a mask -/
theorem j_mask {n : Nat} (hn : okN n) (x : Int32) : x &&& (nI n - nI 1) = nI (ix n x.toInt) := by
  have key : ∀ k : Nat, k ≤ 4 → x &&& nI (2 ^ k - 1) = nI (ix (2 ^ k) x.toInt) := by
    intro k hk
    rw [pk_and x k (by rw [pk_tn (by have : 2 ^ k ≤ 2 ^ 4 := Nat.pow_le_pow_right (by decide) hk; omega)])]
    congr 1
    have h1 : x.toInt = x.toBitVec.toInt := rfl
    have h2 := x.toBitVec.isLt
    unfold ix
    rw [h1, BitVec.toInt_eq_toNat_cond]
    rcases (show k = 0 ∨ k = 1 ∨ k = 2 ∨ k = 3 ∨ k = 4 by omega) with rfl | rfl | rfl | rfl | rfl <;> split <;> omega
  rcases hn with rfl | rfl | rfl | rfl | rfl
  · exact key 0 (by decide)
  · exact key 1 (by decide)
  · exact key 2 (by decide)
  · exact key 3 (by decide)
  · exact key 4 (by decide)
/-- a sum or difference that went round stands at the same place -/
theorem j_ixI {n : Nat} (hn : okN n) {x : Int32} {z : Int} (h : x.toInt % 4294967296 = z % 4294967296) : ix n x.toInt = ix n z := by
  apply ix_cong
  rcases hn with rfl | rfl | rfl | rfl | rfl <;> omega
theorem j_addI (x y : Int32) : (x + y).toInt % 4294967296 = (x.toInt + y.toInt) % 4294967296 := by
  rw [Int32.toInt_add]; exact Int.bmod_emod
theorem j_subI (x y : Int32) : (x - y).toInt % 4294967296 = (x.toInt - y.toInt) % 4294967296 := by
  rw [Int32.toInt_sub]; exact Int.bmod_emod
theorem j_mulI (x y : Int32) : (x * y).toInt % 4294967296 = (x.toInt * y.toInt) % 4294967296 := by
  rw [Int32.toInt_mul]; exact Int.bmod_emod
theorem j_negI (x : Int32) : (-x).toInt % 4294967296 = (-x.toInt) % 4294967296 := by
  rw [Int32.toInt_neg]; exact Int.bmod_emod
/-- how many are 0 -/
def cz (F : Nat → Rg) : Nat → Nat
  | 0 => 0
  | n + 1 => cz F n + (if F n = 0 then 1 else 0)
theorem cz_le (F : Nat → Rg) : ∀ n, cz F n ≤ n
  | 0 => Nat.le_refl 0
  | n + 1 => by have h := cz_le F n; unfold cz; split <;> omega
theorem val0 (u : Rg) : nI u.val = nI 0 ↔ u = 0 := by
  rw [nI_eq (by have := u.isLt; omega) (by decide)]
  exact ⟨fun h => Fin.ext h, fun h => by rw [h]; rfl⟩
theorem val_ne {u v : Rg} : nI u.val = nI v.val ↔ u = v := by
  rw [nI_eq (by have := u.isLt; omega) (by have := v.isLt; omega)]
  exact ⟨fun h => Fin.ext h, fun h => by rw [h]⟩
