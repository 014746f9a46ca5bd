/-! codes of the exceptions: the first condition that fails -/
def kk1 (a : Prop) [Decidable a] : Nat := if a then 0 else 1
def kk2 (a b : Prop) [Decidable a] [Decidable b] : Nat := if a then (if b then 0 else 2) else 1
def kk3 (a b c : Prop) [Decidable a] [Decidable b] [Decidable c] : Nat := if a then (if b then (if c then 0 else 3) else 2) else 1
theorem kk1_0 {a : Prop} [Decidable a] (h : a) : kk1 a = 0 := if_pos h
theorem kk1_1 {a : Prop} [Decidable a] (h : ¬ a) : kk1 a = 1 := if_neg h
theorem kk2_0 {a b : Prop} [Decidable a] [Decidable b] (h : a) (h2 : b) : kk2 a b = 0 := by unfold kk2; rw [if_pos h, if_pos h2]
theorem kk2_1 {a b : Prop} [Decidable a] [Decidable b] (h : ¬ a) : kk2 a b = 1 := if_neg h
theorem kk2_2 {a b : Prop} [Decidable a] [Decidable b] (h : a) (h2 : ¬ b) : kk2 a b = 2 := by unfold kk2; rw [if_pos h, if_neg h2]
theorem kk3_0 {a b c : Prop} [Decidable a] [Decidable b] [Decidable c] (h : a) (h2 : b) (h3 : c) : kk3 a b c = 0 := by unfold kk3; rw [if_pos h, if_pos h2, if_pos h3]
theorem kk3_1 {a b c : Prop} [Decidable a] [Decidable b] [Decidable c] (h : ¬ a) : kk3 a b c = 1 := if_neg h
theorem kk3_2 {a b c : Prop} [Decidable a] [Decidable b] [Decidable c] (h : a) (h2 : ¬ b) : kk3 a b c = 2 := by unfold kk3; rw [if_pos h, if_neg h2]
theorem kk3_3 {a b c : Prop} [Decidable a] [Decidable b] [Decidable c] (h : a) (h2 : b) (h3 : ¬ c) : kk3 a b c = 3 := by unfold kk3; rw [if_pos h, if_pos h2, if_neg h3]
theorem cRel.keep {σ σ' : cSt} {Δ : dSt} (hR : cRel σ Δ) (hk : cKeep σ σ' (fun q => q < 4)) : cRel σ' Δ := ⟨hk.1.trans hR.1, hR.2.1, fun k h => ⟨(hR.2.2 k h).1, (hR.2.2 k h).2.eq (hk.2 k h)⟩⟩
theorem cRel.same {σ σ' : cSt} {Δ : dSt} {q : Nat} (hR : cRel σ Δ) (hk : cSame σ σ' q) (hq : 4 ≤ q) : cRel σ' Δ := hR.keep (cKeep.of hk (fun a ha => by omega))
theorem cRel.row {σ σ' : cSt} {Δ : dSt} {i n : Nat} {G : Nat → Rg} (hR : cRel σ Δ) (hk : cSame σ σ' i) (hn : okL n) (hG : rowIs σ' i n G) : cRel σ' (dRow Δ i n G) := by
  refine ⟨hk.1.trans hR.1, hR.2.1, fun k h => ?_⟩
  by_cases q : k = i
  · subst q
    simp only [dRow, vf_upd, if_pos]
    exact ⟨hn, hG⟩
  · simp only [dRow, vf_upd, if_neg q]
    exact ⟨(hR.2.2 k h).1, (hR.2.2 k h).2.kept hk q⟩
theorem cRel.row2 {σ σ1 σ' : cSt} {Δ : dSt} {i n : Nat} {G : Nat → Rg} (hR : cRel σ Δ) (hk1 : cKeep σ σ1 (fun q => q < 4)) (hk : cSame σ1 σ' i) (hn : okL n) (hG : rowIs σ' i n G) : cRel σ' (dRow Δ i n G) := (hR.keep hk1).row hk hn hG
/-- a number's worth at x, from its last place down -/
def hrn (F : Nat → Rg) (x : Rg) : Nat → Nat → Rg
  | 0, _ => 0
  | m + 1, k => hrn F x m (k + 1) * x + F k
theorem hrn_s (F : Nat → Rg) (x : Rg) (m k : Nat) : hrn F x (m + 1) k = hrn F x m (k + 1) * x + F k := rfl
/-- where numbers are other than 0, as bits -/
def spt (F : Nat → Rg) : Nat → Nat
  | 0 => 0
  | n + 1 => spt F n + (if F n = 0 then 0 else 2 ^ n)
theorem spt_s (F : Nat → Rg) (n : Nat) : spt F (n + 1) = spt F n + (if F n = 0 then 0 else 2 ^ n) := rfl
theorem spt_lt (F : Nat → Rg) : ∀ n, spt F n < 2 ^ n
  | 0 => Nat.zero_lt_one
  | n + 1 => by have h := spt_lt F n; rw [spt_s, Nat.pow_succ]; split <;> omega
theorem j_bit {k : Nat} (hk : k < 16) : nI 1 <<< (nI k &&& 31) = nI (2 ^ k) := by
  rcases (show k = 0 ∨ k = 1 ∨ k = 2 ∨ k = 3 ∨ k = 4 ∨ k = 5 ∨ k = 6 ∨ k = 7 ∨ k = 8 ∨ k = 9 ∨ k = 10 ∨ k = 11 ∨ k = 12 ∨ k = 13 ∨ k = 14 ∨ k = 15 by omega) with rfl | rfl | rfl | rfl | rfl | rfl | rfl | rfl | rfl | rfl | rfl | rfl | rfl | rfl | rfl | rfl <;> decide +kernel
theorem j_or (a b : Nat) : nI a ||| nI b = nI (a ||| b) := by
  unfold nI
  apply Int32.toBitVec_inj.mp
  rw [Int32.toBitVec_or]
  show BitVec.ofNat 32 a ||| BitVec.ofNat 32 b = BitVec.ofNat 32 (a ||| b)
  rw [BitVec.ofNat_or]
theorem j_orBit {F : Nat → Rg} {k : Nat} (hk : k < 16) (h : ¬ F k = 0) : nI (spt F k) ||| nI (2 ^ k) = nI (spt F (k + 1)) := by
  rw [j_or, spt_s, if_neg h]
  congr 1
  have := Nat.two_pow_add_eq_or_of_lt (spt_lt F k) 1
  rw [Nat.mul_one] at this
  rw [Nat.add_comm, this, Nat.or_comm]
/-- which two rows are alike -/
def dLike (Δ : dSt) (i j : Nat) : Prop := Δ.2.1 i = Δ.2.1 j ∧ ∀ t, t < Δ.2.1 i → Δ.2.2 i t = Δ.2.2 j t
/-- a row comes again after d -/
def agn (n : Nat) (F : Nat → Rg) (d : Nat) : Prop := ∀ j, j < n → F j = F (ix n ((j : Int) + d))
def isPd (n : Nat) (F : Nat → Rg) (d : Nat) : Prop := (∃ e, d = 2 ^ e ∧ d < n ∧ agn n F d ∧ ∀ a, a < e → ¬ agn n F (2 ^ a)) ∨ (d = n ∧ ∀ a, 2 ^ a < n → ¬ agn n F (2 ^ a))
theorem isPd_one {n : Nat} {F : Nat → Rg} {d d2 : Nat} (h : isPd n F d) (h2 : isPd n F d2) : d = d2 := by
  rcases h with ⟨e, e1, e2, e3, e4⟩ | ⟨e1, e2⟩ <;> rcases h2 with ⟨f, f1, f2, f3, f4⟩ | ⟨f1, f2⟩
  · rcases Nat.lt_trichotomy e f with q | q | q
    · exact absurd (e1 ▸ e3) (f4 e q)
    · rw [e1, f1, q]
    · exact absurd (f1 ▸ f3) (e4 f q)
  · exact absurd (e1 ▸ e3) (f2 e (by omega))
  · exact absurd (f1 ▸ f3) (e2 f (by omega))
  · rw [e1, f1]
/-- plain sums of a row -/
def sv (F : Nat → Rg) (n : Nat) : Nat := sn n (fun i => (F i).val)
theorem sv_le (F : Nat → Rg) (n : Nat) : sv F n ≤ n * 65536 := sn_le (fun i => Nat.le_of_lt_succ (F i).isLt) n
/-- the checksum -/
def ckR (F : Nat → Rg) (h : Int64) : Nat → Int64
  | 0 => h
  | n + 1 => lN 31 * ckR F h n + lN (F n).val
def ckD (Δ : dSt) : Nat → Int64
  | 0 => lN 31 * lN 7 + lN Δ.1
  | k + 1 => ckR (Δ.2.2 k) (lN 31 * ckD Δ k + lN (Δ.2.1 k)) (Δ.2.1 k)
theorem ckR_s (F : Nat → Rg) (h : Int64) (n : Nat) : ckR F h (n + 1) = lN 31 * ckR F h n + lN (F n).val := rfl
theorem ckD_s (Δ : dSt) (k : Nat) : ckD Δ (k + 1) = ckR (Δ.2.2 k) (lN 31 * ckD Δ k + lN (Δ.2.1 k)) (Δ.2.1 k) := rfl
/-- signs -/
def cmb (how : Int32) (F G : Nat → Rg) (i : Nat) : Rg := if how = nI 43 then F i + G i else if how = nI 45 then F i - G i else F i * G i
abbrev okS (how : Int32) : Prop := how = nI 43 ∨ how = nI 45 ∨ how = nI 42
