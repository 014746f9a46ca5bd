theorem fp_n64 {r : UInt64} (h : Jvm.FP.Core.dIsNaN r = false) : vf_n64 r := by
  have h1 := (Jvm.FP.Core.ne_nan r).mp ((Jvm.FP.Core.notNaN_iff r).mp h)
  unfold vf_n64
  rw [UInt64.le_iff_toNat_le, Jvm.FP.Core.mask_toNat]
  exact h1
theorem fp_n32 {r : UInt32} (h : Jvm.FP.Core.fIsNaN r = false) : vf_n32 r := by
  have h1 := (Jvm.FP.Core.ne_nan32 r).mp ((Jvm.FP.Core.notNaN_iff32 r).mp h)
  unfold vf_n32
  rw [UInt32.le_iff_toNat_le, Jvm.FP.Core.mask_toNat32]
  exact h1
theorem fp_mean0 (x : Int32) {n : Nat} (hn : okL n) : Jvm.FP.Core.dIsNaN (FP.ddiv (FP.i2d x) (FP.i2d (nI n))) = false := by
  refine Jvm.FP.Core.ddiv_out ?_ ?_ ?_
  · show Jvm.FP.Core.dIsNaN (Jvm.FP.Core.i2d x) = false
    rw [Jvm.FP.Core.i2d_l2d]
    exact Jvm.FP.Core.l2d_notNaN _
  · show Jvm.FP.Core.DFin (Jvm.FP.Core.i2d (nI n))
    rw [Jvm.FP.Core.i2d_l2d]
    exact Jvm.FP.Core.l2d_fin _
  · rw [Jvm.FP.Core.zero_bits2]
    rcases hn with rfl | rfl | rfl | rfl <;> decide +kernel
theorem fp_zeros0 (x : Int32) {n : Nat} (hn : okL n) : Jvm.FP.Core.fIsNaN (FP.fdiv (FP.i2f x) (FP.i2f (nI n))) = false := by
  refine Jvm.FP.Core.fdiv_out ?_ ?_ ?_
  · show Jvm.FP.Core.fIsNaN (Jvm.FP.Core.i2f x) = false
    rw [Jvm.FP.Core.i2f_l2f]
    exact Jvm.FP.Core.l2f_notNaN _
  · show Jvm.FP.Core.FFin (Jvm.FP.Core.i2f (nI n))
    rw [Jvm.FP.Core.i2f_l2f]
    exact Jvm.FP.Core.l2f_fin _
  · rw [Jvm.FP.Core.zero_bits232]
    rcases hn with rfl | rfl | rfl | rfl <;> decide +kernel
theorem fp_mean (x : Int32) {n : Nat} (hn : okL n) : vf_n64 (FP.ddiv (FP.i2d x) (FP.i2d (nI n))) := fp_n64 (fp_mean0 x hn)
theorem fp_zeros (x : Int32) {n : Nat} (hn : okL n) : vf_n32 (FP.fdiv (FP.i2f x) (FP.i2f (nI n))) := fp_n32 (fp_zeros0 x hn)
theorem fp_f2d {r : UInt32} (h : Jvm.FP.Core.fIsNaN r = false) : Jvm.FP.Core.dIsNaN (FP.f2d r) = false := by
  unfold FP.f2d
  rw [if_neg (by rw [h]; exact Bool.noConfusion)]
  exact Jvm.FP.Core.f2d_out h
theorem fp_eq {r : UInt64} (h : Jvm.FP.Core.dIsNaN r = false) : FP.dcmp r r = some .eq := Jvm.FP.Core.dcmp_refl h
def mPostD (L : mLay) (Δ Δ' : dSt) (K : Nat) (VL : UInt64 → Prop) : Option Value → va_W → Prop := fun r w => ∃ b : UInt64, r = some (.double b) ∧ ∃ μ', w = WM L μ' ∧ mt μ' = nI K ∧ ((K = 0 ∧ VL b ∧ mRel μ' Δ') ∨ (¬ K = 0 ∧ mRel μ' Δ))
def mPostF (L : mLay) (Δ Δ' : dSt) (K : Nat) (VL : UInt32 → Prop) : Option Value → va_W → Prop := fun r w => ∃ b : UInt32, r = some (.float b) ∧ ∃ μ', w = WM L μ' ∧ mt μ' = nI K ∧ ((K = 0 ∧ VL b ∧ mRel μ' Δ') ∨ (¬ K = 0 ∧ mRel μ' Δ))
def sumN (n : Nat) (F : Nat → Rg) : Nat := sn n (fun i => (F i).val)
theorem sumN_s (n : Nat) (F : Nat → Rg) : nI (sumN n F) + nI (F n).val = nI (sumN (n + 1) F) := nI_add _ _
def meanV (n : Nat) (F : Nat → Rg) : UInt64 := FP.ddiv (FP.i2d (nI (sumN n F))) (FP.i2d (nI n))
def zerosV (n : Nat) (F : Nat → Rg) : UInt32 := FP.fdiv (FP.i2f (nI (cz F n))) (FP.i2f (nI n))
