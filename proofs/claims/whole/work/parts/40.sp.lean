/-! what the calls answer: the document's state, codes of the exceptions, values -/
abbrev dSt : Type := Nat × (Nat → Nat) × (Nat → Nat → Rg)
def cRel (σ : cSt) (Δ : dSt) : Prop := σ.1 = nI Δ.1 ∧ okO Δ.1 ∧ ∀ k, k < 4 → okL (Δ.2.1 k) ∧ rowIs σ k (Δ.2.1 k) (Δ.2.2 k)
def dRow (Δ : dSt) (i n : Nat) (F : Nat → Rg) : dSt := (Δ.1, vf_upd Δ.2.1 i n, vf_upd Δ.2.2 i F)
/-- an int that is none of the right ones stands for no place -/
def rI (x : Int32) : Nat := x.toNatClampNeg
abbrev okR (x : Int32) : Prop := ¬ x < 0 ∧ ¬ nI 4 ≤ x
abbrev okNum (x : Int32) : Prop := ¬ x < 0 ∧ ¬ 65537 ≤ x
abbrev okP (x : Int32) (n : Nat) : Prop := ¬ x < 0 ∧ ¬ nI n ≤ x
abbrev okLI (x : Int32) : Prop := x = nI 2 ∨ x = nI 4 ∨ x = nI 8 ∨ x = nI 16
theorem rI_nI {n : Nat} (h : n < 2 ^ 31) : rI (nI n) = n := nI_clamp h
theorem okP.get {x : Int32} {n : Nat} (h : okP x n) (hn : n < 2 ^ 31) : rI x < n ∧ x = nI (rI x) := by
  rcases pk_ix x hn with q | q | ⟨j, hj, q⟩
  · exact absurd q h.1
  · exact absurd q h.2
  · subst q; rw [rI_nI (by omega)]; exact ⟨hj, rfl⟩
theorem okR.get {x : Int32} (h : okR x) : rI x < 4 ∧ x = nI (rI x) := okP.get (n := 4) h (by decide)
theorem okNum.get {x : Int32} (h : okNum x) : rI x < 65537 ∧ x = nI (rI x) := okP.get (n := 65537) h (by decide)
theorem okLI.get {x : Int32} (h : okLI x) : okL (rI x) ∧ x = nI (rI x) := by
  unfold okL
  rcases h with rfl | rfl | rfl | rfl
  · exact ⟨Or.inl rfl, rfl⟩
  · exact ⟨Or.inr (Or.inl rfl), rfl⟩
  · exact ⟨Or.inr (Or.inr (Or.inl rfl)), rfl⟩
  · exact ⟨Or.inr (Or.inr (Or.inr rfl)), rfl⟩
def nu (x : Int32) : Rg := Fin.ofNat 65537 (rI x)
theorem nu_val {x : Int32} (h : okNum x) : x = nI (nu x).val := by
  obtain ⟨h1, h2⟩ := h.get
  have h3 : (nu x).val = rI x := Nat.mod_eq_of_lt h1
  rw [h3]
  exact h2
def XI : String := "java/lang/IndexOutOfBoundsException"
def XA : String := "java/lang/IllegalArgumentException"
def XS : String := "java/lang/IllegalStateException"
abbrev okD (x : Int32) : Prop := x = nI 1 ∨ x = nI 2 ∨ x = nI 4 ∨ x = nI 8 ∨ x = nI 16
theorem okD.get {x : Int32} (h : okD x) : okN (rI x) ∧ x = nI (rI x) := by
  unfold okN
  rcases h with rfl | rfl | rfl | rfl | rfl
  · exact ⟨Or.inl rfl, rfl⟩
  · exact ⟨Or.inr (Or.inl rfl), rfl⟩
  · exact ⟨Or.inr (Or.inr (Or.inl rfl)), rfl⟩
  · exact ⟨Or.inr (Or.inr (Or.inr (Or.inl rfl))), rfl⟩
  · exact ⟨Or.inr (Or.inr (Or.inr (Or.inr rfl))), rfl⟩
theorem okD.of {x : Int32} {n : Nat} (h : okN n) (hx : x = nI n) : okD x := by
  subst hx
  rcases h with rfl | rfl | rfl | rfl | rfl
  · exact Or.inl rfl
  · exact Or.inr (Or.inl rfl)
  · exact Or.inr (Or.inr (Or.inl rfl))
  · exact Or.inr (Or.inr (Or.inr (Or.inl rfl)))
  · exact Or.inr (Or.inr (Or.inr (Or.inr rfl)))
