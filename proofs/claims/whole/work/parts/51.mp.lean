theorem bI_c {p q : Prop} [Decidable p] [Decidable q] (h : p ↔ q) : bI p = bI q := by
  unfold bI
  by_cases c : p
  · rw [if_pos c, if_pos (h.mp c)]
  · rw [if_neg c, if_neg (fun z => c (h.mpr z))]
theorem m_in {x : Int32} {n : Nat} (hn : n < 2 ^ 30) : (¬ x < nI 0 ∧ ¬ nI n < x) ↔ okP x (n + 1) := by
  rw [Int32.lt_iff_toInt_lt, Int32.lt_iff_toInt_lt, nI_toInt (by omega), nI_toInt (by omega)]
  unfold okP
  rw [Int32.lt_iff_toInt_lt, Int32.le_iff_toInt_le, nI_toInt (by omega), show (0 : Int32).toInt = 0 from rfl]
  omega
theorem m_num {x : Int32} : (¬ x < nI 0 ∧ ¬ nI 65536 < x) ↔ okNum x := m_in (n := 65536) (by decide)
theorem m_row {x : Int32} : (¬ x < nI 0 ∧ ¬ nI 3 < x) ↔ okR x := m_in (n := 3) (by decide)
theorem m_place {x : Int32} {n : Nat} (h0 : 0 < n) (hn : n < 2 ^ 30) : (¬ x < nI 0 ∧ ¬ (nI n - nI 1) < x) ↔ okP x n := by
  obtain ⟨k, rfl⟩ : ∃ k, n = k + 1 := ⟨n - 1, by omega⟩
  rw [show nI (k + 1) - nI 1 = nI k from nI_pred k]
  exact m_in (by omega)
/-- rests, from 0 on -/
theorem m_tmod {n : Nat} (hn : okN n) (z : Int) : (z.tmod (n : Int) < 0 ∧ z.tmod (n : Int) + n = z % (n : Int)) ∨ (¬ z.tmod (n : Int) < 0 ∧ z.tmod (n : Int) = z % (n : Int)) := by
  have hp := hn.pos
  have h1 := Int.emod_nonneg z (b := (n : Int)) (by omega)
  have h2 := Int.emod_lt_of_pos z (b := (n : Int)) (by omega)
  rw [Int.tmod_eq_emod]
  split
  · exact Or.inr ⟨by omega, by omega⟩
  · rename_i h
    have h3 : ¬ z % (n : Int) = 0 := fun q => h (Or.inr (Int.dvd_of_emod_eq_zero q))
    exact Or.inl ⟨by omega, by omega⟩
theorem m_bmod {z : Int} (h1 : -2147483648 ≤ z) (h2 : z < 2147483648) : z.bmod (2 ^ 32) = z := by
  rw [Int.bmod_def]; omega
theorem m_left {n : Nat} (hn : okN n) {v : Int64} {z : Int} (hv : v.toInt = z) : ∃ r : Int32, (v - v / lN n * lN n).toInt32 = r ∧ ((r < 0 ∧ r + nI n = nI (ix n z)) ∨ (¬ r < 0 ∧ r = nI (ix n z))) := by
  have hle := hn.le
  have hp := hn.pos
  have hc := ix_cast hp z
  have hl := ix_lt hp z
  have ht := m_tmod hn z
  have h1 := Int.emod_nonneg z (b := (n : Int)) (by omega)
  have h2 := Int.emod_lt_of_pos z (b := (n : Int)) (by omega)
  refine ⟨_, rfl, ?_⟩
  rw [RoadKit.lrem_mod]
  have e : ((v % lN n).toInt32).toInt = z.tmod (n : Int) := by
    rw [Int64.toInt_toInt32, Int64.toInt_mod, hv, lN_toInt (by omega), m_bmod (by omega) (by omega)]
  rcases ht with ⟨a, b⟩ | ⟨a, b⟩
  · left
    refine ⟨by rw [Int32.lt_iff_toInt_lt, e]; exact a, ?_⟩
    apply Int32.toInt_inj.mp
    rw [Int32.toInt_add, e, nI_toInt (by omega), nI_toInt (by omega), m_bmod (by omega) (by omega)]
    omega
  · right
    refine ⟨by rw [Int32.lt_iff_toInt_lt, e]; exact a, ?_⟩
    apply Int32.toInt_inj.mp
    rw [e, nI_toInt (by omega)]
    omega
/-- reckoned rows that are made -/
def mMade (μ μ' : mSt) (n : Nat) (F : Nat → Rg) : Prop := ∃ f, μ' = mMa μ f ∧ ∀ j, j < n → f j = nI (F j).val
/-- what a reference's call does to its state: the code, and where it is 0 the new state -/
def mEnd (L : mLay) (w : va_W) (Δ Δ' : dSt) (K : Nat) (r : Option Value) (v : Value) : Prop := ∃ μ', w = WM L μ' ∧ mt μ' = nI K ∧ ((K = 0 ∧ r = some v ∧ mRel μ' Δ') ∨ (¬ K = 0 ∧ mRel μ' Δ))
theorem mRel.row {μ μ' : mSt} {Δ : dSt} {i n : Nat} {G : Nat → Rg} (hR : mRel μ Δ) (ho : mo μ' = mo μ) (hn : okL n) (hl : ml μ' i = nI n) (hG : mIs μ' i n G) (hz : ∀ j, n ≤ j → j < 16 → mn μ' i j = nI 0) (hk : ∀ k, k < 4 → k ≠ i → ml μ' k = ml μ k ∧ mn μ' k = mn μ k) : mRel μ' (dRow Δ i n G) := by
  refine ⟨ho.trans hR.1, hR.2.1, fun k h => ?_⟩
  by_cases q : k = i
  · subst q
    simp only [dRow, vf_upd, if_pos]
    exact ⟨hn, hl, hG, hz⟩
  · simp only [dRow, vf_upd, if_neg q]
    obtain ⟨a1, a2, a3, a4⟩ := hR.2.2 k h
    obtain ⟨b1, b2⟩ := hk k h q
    exact ⟨a1, b1.trans a2, fun j hj => by rw [b2]; exact a3 j hj, fun j h1 h2 => by rw [b2]; exact a4 j h1 h2⟩
theorem mn_ro (μ : mSt) (k : Nat) (f : Nat → Int32) : mn (mRo μ k f) k = f := by simp [mRo, mn, vf_upd]
theorem mn_rone (μ : mSt) {k j : Nat} (f : Nat → Int32) (h : j ≠ k) : mn (mRo μ k f) j = mn μ j := by simp [mRo, mn, vf_upd, h]
