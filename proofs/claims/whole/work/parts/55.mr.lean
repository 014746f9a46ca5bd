def mPost (L : mLay) (Δ Δ' : dSt) (K : Nat) (VL : Int32 → Prop) : Option Value → va_W → Prop := fun r w => ∃ b : Int32, r = some (.int b) ∧ ∃ μ', w = WM L μ' ∧ mt μ' = nI K ∧ ((K = 0 ∧ VL b ∧ mRel μ' Δ') ∨ (¬ K = 0 ∧ mRel μ' Δ))
def mPostL (L : mLay) (Δ Δ' : dSt) (K : Nat) (VL : Int64 → Prop) : Option Value → va_W → Prop := fun r w => ∃ b : Int64, r = some (.long b) ∧ ∃ μ', w = WM L μ' ∧ mt μ' = nI K ∧ ((K = 0 ∧ VL b ∧ mRel μ' Δ') ∨ (¬ K = 0 ∧ mRel μ' Δ))
theorem ne1 : ¬ (1 : Nat) = 0 := by decide
theorem ne2 : ¬ (2 : Nat) = 0 := by decide
theorem ne3 : ¬ (3 : Nat) = 0 := by decide
theorem kne {K j : Nat} (h : K = j) (hj : ¬ j = 0) : ¬ K = 0 := by rw [h]; exact hj
theorem thr_t {P : Prop} [Decidable P] {a b : Int32} (h : P) : (if P then a else b) = a := if_pos h
theorem thr_f {P : Prop} [Decidable P] {a b : Int32} (h : ¬ P) : (if P then a else b) = b := if_neg h
theorem nn {P : Prop} [Decidable P] (h : ¬ ¬ P) : P := Decidable.not_not.mp h
theorem mth_one {μ : mSt} {v w : Int32} : mTh (mTh μ v) w = mTh μ w := rfl
theorem mRel.len {μ : mSt} {Δ : dSt} (hR : mRel μ Δ) {k : Nat} (hk : k < 4) : ml μ k = nI (Δ.2.1 k) := (hR.2.2 k hk).2.1
theorem mRel.is {μ : mSt} {Δ : dSt} (hR : mRel μ Δ) {k : Nat} (hk : k < 4) : mIs μ k (Δ.2.1 k) (Δ.2.2 k) := (hR.2.2 k hk).2.2.1
theorem mRel.okl {μ : mSt} {Δ : dSt} (hR : mRel μ Δ) {k : Nat} (hk : k < 4) : okL (Δ.2.1 k) := (hR.2.2 k hk).1
theorem mRel.zer {μ : mSt} {Δ : dSt} (hR : mRel μ Δ) {k : Nat} (hk : k < 4) : ∀ j, Δ.2.1 k ≤ j → j < 16 → mn μ k j = nI 0 := (hR.2.2 k hk).2.2.2
theorem len_eq {μ : mSt} {Δ : dSt} (hR : mRel μ Δ) {i j : Nat} (hi : i < 4) (hj : j < 4) : nI (Δ.2.1 i) = nI (Δ.2.1 j) ↔ Δ.2.1 i = Δ.2.1 j := nI_eq (by have := (hR.okl hi).N.le; omega) (by have := (hR.okl hj).N.le; omega)
theorem mRel_new {μ μ2 : mSt} {Δ : dSt} {i n : Nat} {f : Nat → Int32} {F : Nat → Rg} (hR : mRel μ Δ) (e : μ2 = mRo (mLe μ (upd (ml μ) i (nI n))) i f) (hn : okL n) (hf : ∀ j, j < n → f j = nI (F j).val) (hz : ∀ j, n ≤ j → j < 16 → f j = nI 0) : mRel μ2 (dRow Δ i n F) := by
  subst e
  refine hR.row rfl hn (upd_at _ _ _) (fun j hj => by rw [mn_ro]; exact hf j hj) (fun j h1 h2 => by rw [mn_ro]; exact hz j h1 h2) (fun k hk hne => ⟨upd_ne _ _ hne, by rw [mn_rone _ _ hne]; rfl⟩)
theorem mRel_upd {μ μ2 : mSt} {Δ : dSt} {i : Nat} {f : Nat → Int32} {F : Nat → Rg} (hR : mRel μ Δ) (hi : i < 4) (e : μ2 = mRo μ i f) (hf : ∀ j, j < Δ.2.1 i → f j = nI (F j).val) (hz : ∀ j, Δ.2.1 i ≤ j → f j = mn μ i j) : mRel μ2 (dRow Δ i (Δ.2.1 i) F) := by
  subst e
  refine hR.row rfl (hR.okl hi) (hR.len hi) (fun j hj => by rw [mn_ro]; exact hf j hj) (fun j h1 h2 => by rw [mn_ro, hz j h1]; exact hR.zer hi j h1 h2) (fun k hk hne => ⟨rfl, mn_rone _ _ hne⟩)
theorem dLike_symm {Δ : dSt} {i j : Nat} : dLike Δ i j ↔ dLike Δ j i := ⟨fun h => ⟨h.1.symm, fun t ht => (h.2 t (by rw [h.1]; exact ht)).symm⟩, fun h => ⟨h.1.symm, fun t ht => (h.2 t (by rw [h.1]; exact ht)).symm⟩⟩
theorem cd_same {F G : Nat → Rg} : ∀ {n : Nat}, (∀ j, j < n → F j = G j) → cd F G n = 0
  | 0, _ => rfl
  | n + 1, h => by rw [cd_s, cd_same (n := n) (fun j hj => h j (by omega)), if_pos (h n (by omega))]
theorem odd_rem {x : Int32} (h1 : ¬ x < nI 1 ∧ ¬ nI 31 < x) : x - x / nI 2 * nI 2 = nI 1 ↔ ¬ x &&& nI 1 = 0 := by
  have h0 : ¬ x < 0 := fun q => h1.1 (Int32.lt_of_lt_of_le q (by decide))
  obtain ⟨j, hj, rfl⟩ := nI_of2 (M := nI 31) (n := 31) rfl h0 (Int32.not_lt.mp h1.2)
  rw [pk_rem (by omega) (by decide) (by decide), pk_andN (by omega) 1 (by decide), nI_eq (by omega) (by decide)]
  rw [show (0 : Int32) = nI 0 from rfl, nI_eq (by omega) (by decide)]
  omega
/-- a row that got what was made, of another length -/
theorem mPut.rel2 {μ ν : mSt} {k n : Nat} {F : Nat → Rg} {Δ : dSt} (hR : mRel μ Δ) (hk : k < 4) (hn : okL n) (hz : Δ.2.1 k ≤ n) (h : mPut (mLe μ (upd (ml μ) k (nI n))) k F n ν) : mRel ν (dRow Δ k n F) := by
  obtain ⟨f, rfl, hf, hg⟩ := h
  exact mRel_new hR rfl hn hf (fun j h1 h2 => (hg j h1).trans (hR.zer hk j (by omega) h2))
theorem mFill.relput {μ ν ν2 : mSt} {k : Nat} {F : Nat → Rg} {Δ : dSt} {i : Nat} (hR : mRel μ Δ) (hk : k < 4) (h1 : mFill μ F i ν) (h : mPut ν k F (Δ.2.1 k) ν2) : mRel ν2 (dRow Δ k (Δ.2.1 k) F) := h.rel (h1.rel hR) hk
theorem spt_t (F : Nat → Rg) {k : Nat} (h : F k = 0) : nI (spt F k) + nI 0 = nI (spt F (k + 1)) := by rw [spt_s, if_pos h]; exact nI_add _ 0
theorem spt_f (F : Nat → Rg) {k : Nat} (h : ¬ F k = 0) : nI (spt F k) + nI (2 ^ k) = nI (spt F (k + 1)) := by rw [spt_s, if_neg h]; exact nI_add _ _
