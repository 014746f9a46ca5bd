/-- a loop that fills a row: the places below i are done -/
def fillI (σ : cSt) (k n : Nat) (F : Nat → Rg) (i : Nat) (z : cSt) : Prop := cSame σ z k ∧ z.2.1 k = nI n ∧ ∀ j, j < i → z.2.2 k j = nI (F j).val
theorem fillI.step {σ z σ' : cSt} {k n i : Nat} {F : Nat → Rg} {x : Int32} (h : fillI σ k n F i z) (e : σ' = cNm z k (upd (z.2.2 k) i x)) (hx : x = nI (F i).val) : fillI σ k n F (i + 1) σ' := by
  subst e; subst hx
  refine ⟨h.1.tr (cSame.nm _ _ _), h.2.1, fun j hj => ?_⟩
  rw [cNm_at]
  by_cases q : j = i
  · subst q; exact upd_at _ _ _
  · rw [upd_ne _ _ q]; exact h.2.2 j (by omega)
theorem fillI.is {σ z : cSt} {k n : Nat} {F : Nat → Rg} (h : fillI σ k n F n z) : cSame σ z k ∧ rowIs z k n F := ⟨h.1, h.2⟩
/-- the same, where the row may be one of those that are read: the places from i on are as they were -/
def fillA (σ : cSt) (k n : Nat) (F : Nat → Rg) (i : Nat) (z : cSt) : Prop := fillI σ k n F i z ∧ ∀ j, i ≤ j → z.2.2 k j = σ.2.2 k j
theorem fillA.step {σ z σ' : cSt} {k n i : Nat} {F : Nat → Rg} {x : Int32} (h : fillA σ k n F i z) (e : σ' = cNm z k (upd (z.2.2 k) i x)) (hx : x = nI (F i).val) : fillA σ k n F (i + 1) σ' := by
  refine ⟨h.1.step e hx, fun j hj => ?_⟩
  subst e
  rw [cNm_at, upd_ne _ _ (by omega)]
  exact h.2 j (by omega)
theorem fillA.rd {σ z : cSt} {k n i q : Nat} {F : Nat → Rg} (h : fillA σ k n F i z) : z.2.2 q i = σ.2.2 q i := by
  by_cases e : q = k
  · subst e; exact h.2 i (Nat.le_refl i)
  · exact congrFun (h.1.1.2 q e).2 i
theorem fillA.zero {σ σ' : cSt} {k n : Nat} {F : Nat → Rg} (e : σ' = cSz σ k (nI n)) : fillA σ k n F 0 σ' := by
  subst e
  exact ⟨⟨cSame.sz _ _ _, cSz_at _ _ _, fun j hj => absurd hj (Nat.not_lt_zero j)⟩, fun _ _ => rfl⟩
/-- sums of plain numbers -/
def sn : Nat → (Nat → Nat) → Nat
  | 0, _ => 0
  | n + 1, f => sn n f + f n
theorem sn_s (n : Nat) (f : Nat → Nat) : sn (n + 1) f = sn n f + f n := rfl
theorem sn_le {f : Nat → Nat} {b : Nat} (h : ∀ i, f i ≤ b) : ∀ n, sn n f ≤ n * b
  | 0 => Nat.zero_le _
  | n + 1 => by have h1 := sn_le h n; have h2 := h n; rw [sn_s, Nat.succ_mul]; omega
theorem sn_val (F G : Nat → Rg) : ∀ n, sn n (fun i => (F i).val * (G i).val) % 65537 = (sg n (fun i => F i * G i)).val
  | 0 => rfl
  | n + 1 => by
    rw [sn_s, sg_s, Fin.val_add, ← sn_val F G n, Fin.val_mul]
    exact Nat.add_mod _ _ _
theorem sn_lt (F G : Nat → Rg) {n : Nat} (hn : n ≤ 16) : sn n (fun i => (F i).val * (G i).val) < 2 ^ 63 := by
  have h := sn_le (f := fun i => (F i).val * (G i).val) (b := 2 ^ 33) (fun i => Nat.le_of_lt (j_mulLt (F i) (G i))) n
  have h2 : n * 2 ^ 33 ≤ 16 * 2 ^ 33 := Nat.mul_le_mul_right _ hn
  omega
theorem sn_step (F G : Nat → Rg) (i : Nat) {x y : Int32} (hx : x = nI (F i).val) (hy : y = nI (G i).val) : lN (sn i (fun i => (F i).val * (G i).val)) + x.toInt64 * y.toInt64 = lN (sn (i + 1) (fun i => (F i).val * (G i).val)) := by
  rw [j_mul (F i) (G i) hx hy, lN_add, sn_s]
/-- products of rows -/
def rp (n : Nat) (F G : Nat → Rg) (k : Nat) : Rg := sg n (fun i => F i * G (ix n ((k : Int) - i)))
def pp (n : Nat) (F G : Nat → Rg) (k : Nat) : Rg := sg n (fun i => sg n (fun j => if i + j = k then F i * G j else 0))
theorem nI_ne {a b : Nat} (ha : a < 2 ^ 31) (hb : b < 2 ^ 31) (h : a ≠ b) : ¬ nI a = nI b := fun e => h ((nI_eq ha hb).mp e)
theorem j_ixN {n : Nat} (hn : okN n) (a : Int32) (z : Int) (h : a.toInt % 4294967296 = z % 4294967296) : a &&& (nI n - nI 1) = nI (ix n z) := by rw [j_mask hn, j_ixI hn h]
theorem j_shN (u : Rg) {k : Nat} (hk : k < 16) : (nI u.val).toInt64 <<< ((nI 4 * nI k).toInt64 &&& 63) = lN (u.val * 2 ^ (4 * k)) := by
  rw [nI_l (by have := u.isLt; omega), pk_mul, wb_shl _ (by omega)]
/-- the digit k of a number -/
def dg (x : Int32) (k : Nat) : Rg := Fin.ofNat 65537 (x.toBitVec.toNat / 2 ^ (4 * k) % 16)
theorem dg_val (x : Int32) (k : Nat) : (dg x k).val = x.toBitVec.toNat / 2 ^ (4 * k) % 16 := by
  unfold dg
  show (x.toBitVec.toNat / 2 ^ (4 * k) % 16) % 65537 = _
  omega
theorem dg_0 (x : Int32) {k : Nat} (hk : 8 ≤ k) : dg x k = 0 := by
  apply Fin.ext
  rw [dg_val, Nat.div_eq_of_lt]
  · rfl
  · have h := x.toBitVec.isLt
    have h2 : 2 ^ 32 ≤ 2 ^ (4 * k) := Nat.pow_le_pow_right (by decide) (by omega)
    omega
theorem j_dig (x : Int32) {k : Nat} (hk : k < 8) : (x.toUInt32 >>> ((nI 4 * nI k).toUInt32 &&& Int32.toUInt32 31)).toInt32 &&& nI 15 = nI (dg x k).val := by
  rw [pk_mul, pk_and _ 4 (by decide +kernel), pk_ushr x (nI (4 * k)) (4 * k) (s_u (4 * k) (by omega)), dg_val]
theorem okN.ne16 {n : Nat} (h : okN n) : n < 2 ^ 31 := by have := h.le; omega
theorem cz_s (F : Nat → Rg) (n : Nat) : cz F (n + 1) = cz F n + (if F n = 0 then 1 else 0) := rfl
theorem nI_v {u : Rg} {x : Int32} (h : x = nI u.val) (w : Rg) (hw : u = w) : x = nI w.val := by rw [h, hw]
theorem loc_intI {i : Nat} (hi : i < 2 ^ 31) : (nI i).toInt = (i : Int) := nI_toInt hi
theorem hz_sub {i : Nat} (hi : i < 2 ^ 31) (x : Int32) : (nI i - x).toInt % 4294967296 = ((i : Int) - x.toInt) % 4294967296 := by rw [j_subI, nI_toInt hi]
theorem hz_add {i d : Nat} (hi : i < 2 ^ 30) (hd : d < 2 ^ 30) : (nI i + nI d).toInt % 4294967296 = ((i : Int) + d) % 4294967296 := by rw [j_addI, nI_toInt (by omega), nI_toInt (by omega)]
theorem hz_neg {i : Nat} (hi : i < 2 ^ 31) : (-nI i).toInt % 4294967296 = (-(i : Int)) % 4294967296 := by rw [j_negI, nI_toInt hi]
theorem hz_pos {i : Nat} (hi : i < 2 ^ 31) : (nI i).toInt % 4294967296 = (i : Int) % 4294967296 := by rw [nI_toInt hi]
theorem j_modN {i d : Nat} (hd : d = 1 ∨ d = 2 ∨ d = 4 ∨ d = 8 ∨ d = 16) (hi : i < 2 ^ 31) : nI i &&& (nI d - nI 1) = nI (i % d) := by
  rw [j_mask hd, nI_toInt hi]
  unfold ix
  exact congrArg nI (by omega)
