theorem m_u32 (x : Int32) : x.toInt64 &&& 4294967295 = lN x.toBitVec.toNat := by
  apply Int64.toBitVec.inj
  apply BitVec.eq_of_toNat_eq
  rw [Int64.toBitVec_and, BitVec.toNat_and, lN_nat (by have := x.toBitVec.isLt; omega)]
  show (x.toBitVec.signExtend 64).toNat &&& (2 ^ 32 - 1) = _
  rw [Nat.and_two_pow_sub_one_eq_mod, BitVec.toNat_signExtend, BitVec.toNat_setWidth]
  have := x.toBitVec.isLt
  split <;> omega
theorem j_digS (x : Int32) {k : Nat} (hk : k < 8) : (x >>> ((nI 4 * nI k) &&& 31)) &&& nI 15 = nI (dg x k).val := by
  have h0 : ((nI 4 * nI k &&& 31).toBitVec.smod 32).toNat = 4 * k := by
    rcases (show k = 0 ∨ k = 1 ∨ k = 2 ∨ k = 3 ∨ k = 4 ∨ k = 5 ∨ k = 6 ∨ k = 7 by omega) with rfl | rfl | rfl | rfl | rfl | rfl | rfl | rfl <;> decide +kernel
  have h1 : (x >>> ((nI 4 * nI k) &&& 31)).toInt = x.toInt / ((2 ^ (4 * k) : Nat) : Int) := by
    show (x.toBitVec.sshiftRight' _).toInt = _
    rw [BitVec.toInt_sshiftRight']
    erw [h0]
    rw [Int.shiftRight_eq_div_pow]
    rfl
  rw [show nI 15 = nI 16 - nI 1 by decide, j_mask (n := 16) (by unfold okN; omega), h1]
  refine congrArg nI ?_
  rw [dg_val]
  unfold ix
  have e : x.toInt = if x.toBitVec.toNat < 2147483648 then (x.toBitVec.toNat : Int) else (x.toBitVec.toNat : Int) - 4294967296 := by
    show x.toBitVec.toInt = _
    rw [BitVec.toInt_eq_toNat_cond]
    split <;> split <;> omega
  have hb := x.toBitVec.isLt
  rw [e]
  generalize x.toBitVec.toNat = a at hb ⊢
  rcases (show k = 0 ∨ k = 1 ∨ k = 2 ∨ k = 3 ∨ k = 4 ∨ k = 5 ∨ k = 6 ∨ k = 7 by omega) with rfl | rfl | rfl | rfl | rfl | rfl | rfl | rfl <;> (split <;> omega)
theorem ix_back {n : Nat} (hn : 0 < n) (z : Int) {j : Nat} (hj : j < n) : ix n ((ix n ((j : Int) - z) : Nat) + z) = j := by
  rw [ix_add hn, show (j : Int) - z + z = j by omega, ix_of hj]
theorem ix_inj {n a b : Nat} (hn : 0 < n) (z : Int) (ha : a < n) (hb : b < n) (h : ix n ((a : Int) + z) = ix n ((b : Int) + z)) : a = b := by
  have e := congrArg (fun t : Nat => ix n ((t : Int) + -z)) h
  rw [ix_add hn, ix_add hn, show (a : Int) + z + -z = a by omega, show (b : Int) + z + -z = b by omega, ix_of ha, ix_of hb] at e
  exact e
def mScat (μ : mSt) (n : Nat) (F : Nat → Rg) (y : Int) (i : Nat) (ν : mSt) : Prop := ∃ f, ν = mMa μ f ∧ ∀ a, a < i → f (ix n ((a : Int) + y)) = nI (F a).val
theorem mScat.zero (μ : mSt) (n : Nat) (F : Nat → Rg) (y : Int) : mScat μ n F y 0 μ := ⟨mm μ, rfl, fun j hj => absurd hj (Nat.not_lt_zero j)⟩
theorem mScat.step {μ ν ν' : mSt} {n : Nat} {F : Nat → Rg} {y : Int} {i : Nat} {x : Int32} (h : mScat μ n F y i ν) (hi : i < n) (e : ν' = mMa ν (upd (mm ν) (ix n ((i : Int) + y)) x)) (hx : x = nI (F i).val) : mScat μ n F y (i + 1) ν' := by
  obtain ⟨f, rfl, hf⟩ := h
  refine ⟨_, e, lt_s (fun a ha => ?_) ?_⟩
  · rw [upd_ne _ _ (fun q => absurd (ix_inj (by omega) y (by omega) hi q) (by omega))]
    exact hf a ha
  · rw [upd_at]
    exact hx
theorem mScat.fill {μ ν : mSt} {n : Nat} {F : Nat → Rg} {y : Int} (hn : 0 < n) (h : mScat μ n F y n ν) : mFill μ (fun j => F (ix n ((j : Int) - y))) n ν := by
  obtain ⟨f, rfl, hf⟩ := h
  refine ⟨f, rfl, fun j hj => ?_⟩
  have := hf _ (ix_lt hn ((j : Int) - y))
  rw [ix_back hn y hj] at this
  exact this
theorem mScat.len {μ ν : mSt} {n : Nat} {F : Nat → Rg} {y : Int} {i k : Nat} {x : Int32} (h : mScat μ n F y i ν) (hG : ml μ k = x) : ml ν k = x := by obtain ⟨f, rfl, -⟩ := h; exact hG
theorem mScat.is {μ ν : mSt} {n m : Nat} {F G : Nat → Rg} {y : Int} {i k : Nat} (h : mScat μ n F y i ν) (hG : mIs μ k m G) : mIs ν k m G := by obtain ⟨f, rfl, -⟩ := h; exact hG
theorem m_addL (y : Int32) {i : Nat} (hi : i < 16) : ((nI i).toInt64 + y.toInt64).toInt = (i : Int) + y.toInt := by
  rw [Int64.toInt_add, i64_of, i64_of, nI_toInt (by omega)]
  have h1 := y.toInt_lt
  have h2 := y.le_toInt
  rw [Int.bmod_eq_of_le] <;> omega
theorem j_sub2 (u v : Rg) {x y : Int32} (hx : x = nI u.val) (hy : y = nI v.val) : (x - y + 65537) - (x - y + 65537) / 65537 * 65537 = nI (u - v).val := by
  have e : x - y + 65537 = x + 65537 - y := by rw [Int32.sub_eq_add_neg, Int32.sub_eq_add_neg, Int32.add_assoc, Int32.add_comm (-y), Int32.add_assoc]
  rw [e]
  exact j_sub u v hx hy
theorem kk2_z {P Q : Prop} [Decidable P] [Decidable Q] (h : kk2 P Q = 0) : P ∧ Q := by
  by_cases hp : P
  · by_cases hq : Q
    · exact ⟨hp, hq⟩
    · rw [kk2_2 hp hq] at h; exact absurd h (by decide)
  · rw [kk2_1 hp] at h; exact absurd h (by decide)
theorem mRel.oth {μ : mSt} {Δ : dSt} (hR : mRel μ Δ) (f : Nat → Int32) : mRel (mRo μ 4 f) Δ := ⟨hR.1, hR.2.1, fun k hk => by rw [mIs, mn_rone _ _ (show k ≠ 4 by omega)]; exact hR.2.2 k hk⟩
theorem cz_all {F : Nat → Rg} : ∀ {n : Nat}, (∀ j, j < n → ¬ F j = 0) ↔ cz F n = 0
  | 0 => ⟨fun _ => rfl, fun _ j hj => absurd hj (Nat.not_lt_zero j)⟩
  | n + 1 => by
    have ih := cz_all (F := F) (n := n)
    rw [cz_s]
    by_cases h : F n = 0
    · rw [if_pos h]
      exact ⟨fun q => absurd h (q n (Nat.lt_succ_self n)), fun q => absurd q (by omega)⟩
    · rw [if_neg h]
      exact ⟨fun q => ih.mp (fun j hj => q j (by omega)), fun q => lt_s (ih.mpr q) h⟩
def mOth (μ : mSt) (F : Nat → Rg) (i : Nat) (ν : mSt) : Prop := ∃ f, ν = mRo μ 4 f ∧ ∀ j, j < i → f j = nI (F j).val
theorem mOth.zero (μ : mSt) (F : Nat → Rg) : mOth μ F 0 μ := ⟨mn μ 4, (mRo_self _ _).symm, fun j hj => absurd hj (Nat.not_lt_zero j)⟩
theorem mOth.step {μ ν ν' : mSt} {F : Nat → Rg} {i : Nat} {x : Int32} (h : mOth μ F i ν) (e : ν' = mRo ν 4 (upd (mn ν 4) i x)) (hx : x = nI (F i).val) : mOth μ F (i + 1) ν' := by
  obtain ⟨f, rfl, hf⟩ := h
  refine ⟨upd f i x, by rw [e, mn_ro, mRo_twice], lt_s (fun j hj => by rw [upd_ne _ _ (by omega)]; exact hf j hj) (by rw [upd_at]; exact hx)⟩
theorem mOth.is {μ ν : mSt} {F : Nat → Rg} {n : Nat} (h : mOth μ F n ν) : mIs ν 4 n F := by obtain ⟨f, rfl, hf⟩ := h; intro j hj; rw [mn_ro]; exact hf j hj
theorem mOth.keep {μ ν : mSt} {F G : Nat → Rg} {i k n : Nat} (h : mOth μ F i ν) (hk : k < 4) (hG : mIs μ k n G) : mIs ν k n G := by obtain ⟨f, rfl, hf⟩ := h; intro j hj; rw [mn_rone _ _ (by omega)]; exact hG j hj
theorem mOth.mad {μ ν : mSt} {F : Nat → Rg} {i j : Nat} {x : Int32} (h : mOth μ F i ν) (hG : mm μ j = x) : mm ν j = x := by obtain ⟨f, rfl, -⟩ := h; exact hG
theorem mOth.len {μ ν : mSt} {F : Nat → Rg} {i j : Nat} {x : Int32} (h : mOth μ F i ν) (hG : ml μ j = x) : ml ν j = x := by obtain ⟨f, rfl, -⟩ := h; exact hG
theorem mOth.rel {μ ν : mSt} {F : Nat → Rg} {i : Nat} {Δ : dSt} (h : mOth μ F i ν) (hR : mRel μ Δ) : mRel ν Δ := by obtain ⟨f, rfl, -⟩ := h; exact hR.oth f
theorem mOth.thr {μ ν : mSt} {F : Nat → Rg} {i : Nat} (h : mOth μ F i ν) : mt ν = mt μ := by obtain ⟨f, rfl, -⟩ := h; rfl
/-- what is made is made anew from what it was -/
def mRed (μ : mSt) (F : Nat → Rg) (i : Nat) (ν : mSt) : Prop := ∃ f, ν = mMa μ f ∧ (∀ j, j < i → f j = nI (F j).val) ∧ ∀ j, i ≤ j → f j = mm μ j
theorem mRed.zero (μ : mSt) (F : Nat → Rg) : mRed μ F 0 μ := ⟨mm μ, rfl, fun j hj => absurd hj (Nat.not_lt_zero j), fun _ _ => rfl⟩
theorem mRed.step {μ ν ν' : mSt} {F : Nat → Rg} {i : Nat} {x : Int32} (h : mRed μ F i ν) (e : ν' = mMa ν (upd (mm ν) i x)) (hx : x = nI (F i).val) : mRed μ F (i + 1) ν' := by
  obtain ⟨f, rfl, hf, hg⟩ := h
  refine ⟨_, e, lt_s (fun j hj => ?_) ?_, fun j hj => ?_⟩
  · rw [upd_ne _ _ (by omega)]; exact hf j hj
  · rw [upd_at]; exact hx
  · rw [upd_ne _ _ (by omega)]; exact hg j (by omega)
theorem mRed.old {μ ν : mSt} {F : Nat → Rg} {i j : Nat} (h : mRed μ F i ν) (hj : i ≤ j) : mm ν j = mm μ j := by obtain ⟨f, rfl, -, hg⟩ := h; exact hg j hj
theorem mRed.fill {μ ν : mSt} {F : Nat → Rg} {i : Nat} (h : mRed μ F i ν) : mFill μ F i ν := by obtain ⟨f, rfl, hf, -⟩ := h; exact ⟨f, rfl, hf⟩
theorem mix_add {n i j : Nat} (_hn : 0 < n) : ix n ((i : Int) + j) = (i + j) % n := by
  unfold ix
  rw [← Int.natCast_add, ← Int.natCast_emod, Int.toNat_natCast]
