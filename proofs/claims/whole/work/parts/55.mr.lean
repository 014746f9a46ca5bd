def mPost (L : mLay) (Δ Δ' : dSt) (K : Nat) (VL : Int32 → Prop) : Option Value → va_W → Prop := fun r w => ∃ b : Int32, r = some (.int b) ∧ ∃ μ', w = WM L μ' ∧ mt μ' = nI K ∧ ((K = 0 ∧ VL b ∧ mRel μ' Δ') ∨ (¬ K = 0 ∧ mRel μ' Δ))
def mPostL (L : mLay) (Δ Δ' : dSt) (K : Nat) (VL : Int64 → Prop) : Option Value → va_W → Prop := fun r w => ∃ b : Int64, r = some (.long b) ∧ ∃ μ', w = WM L μ' ∧ mt μ' = nI K ∧ ((K = 0 ∧ VL b ∧ mRel μ' Δ') ∨ (¬ K = 0 ∧ mRel μ' Δ))
theorem ne1 : ¬ (1 : Nat) = 0 := by decide
theorem ne2 : ¬ (2 : Nat) = 0 := by decide
theorem ne3 : ¬ (3 : Nat) = 0 := by decide
theorem kne {K j : Nat} (h : K = j) (hj : ¬ j = 0) : ¬ K = 0 := by rw [h]; exact hj
theorem thr_t {P : Prop} [Decidable P] {a b : Int32} (h : P) : (if P then a else b) = a := if_pos h
theorem thr_f {P : Prop} [Decidable P] {a b : Int32} (h : ¬ P) : (if P then a else b) = b := if_neg h
theorem nn {P : Prop} [Decidable P] (h : ¬ ¬ P) : P := Decidable.not_not.mp h
theorem mth_one {μ : mSt} {v w : Int32} : mTh (mTh μ v) w = mTh μ w := rfl
theorem mRel.len {μ : mSt} {Δ : dSt} (hR : mRel μ Δ) {k : Nat} (hk : k < 4) : ml μ k = nI (Δ.2.1 k) := (hR.2.2 k hk).2.1
theorem mRel.is {μ : mSt} {Δ : dSt} (hR : mRel μ Δ) {k : Nat} (hk : k < 4) : mIs μ k (Δ.2.1 k) (Δ.2.2 k) := (hR.2.2 k hk).2.2.1
theorem mRel.okl {μ : mSt} {Δ : dSt} (hR : mRel μ Δ) {k : Nat} (hk : k < 4) : okL (Δ.2.1 k) := (hR.2.2 k hk).1
theorem mRel.zer {μ : mSt} {Δ : dSt} (hR : mRel μ Δ) {k : Nat} (hk : k < 4) : ∀ j, Δ.2.1 k ≤ j → j < 16 → mn μ k j = nI 0 := (hR.2.2 k hk).2.2.2
theorem len_eq {μ : mSt} {Δ : dSt} (hR : mRel μ Δ) {i j : Nat} (hi : i < 4) (hj : j < 4) : nI (Δ.2.1 i) = nI (Δ.2.1 j) ↔ Δ.2.1 i = Δ.2.1 j := nI_eq (by have := (hR.okl hi).N.le; omega) (by have := (hR.okl hj).N.le; omega)
