def isPq (n : Nat) (F : Nat → Rg) (q lo v : Nat) : Prop := (v = n ∧ ∀ a, lo ≤ a → a < q → ¬ agn n F (2 ^ a)) ∨ ∃ e, v = 2 ^ e ∧ lo ≤ e ∧ e < q ∧ agn n F (2 ^ e) ∧ ∀ a, lo ≤ a → a < e → ¬ agn n F (2 ^ a)
theorem isPq.zero (n : Nat) (F : Nat → Rg) (q : Nat) : isPq n F q q n := Or.inl ⟨rfl, fun a h1 h2 => absurd h2 (by omega)⟩
theorem isPq.yes {n : Nat} {F : Nat → Rg} {q t : Nat} (ht : t < q) (h : agn n F (2 ^ t)) : isPq n F q t (2 ^ t) := Or.inr ⟨t, rfl, Nat.le_refl t, ht, h, fun a h1 h2 => absurd h2 (by omega)⟩
theorem isPq.no {n : Nat} {F : Nat → Rg} {q t v : Nat} (h : isPq n F q (t + 1) v) (hn : ¬ agn n F (2 ^ t)) : isPq n F q t v := by
  rcases h with ⟨h1, h2⟩ | ⟨e, h1, h2, h3, h4, h5⟩
  · refine Or.inl ⟨h1, fun a ha hq => ?_⟩
    rcases Nat.eq_or_lt_of_le ha with rfl | c
    · exact hn
    · exact h2 a c hq
  · refine Or.inr ⟨e, h1, by omega, h3, h4, fun a ha hq => ?_⟩
    rcases Nat.eq_or_lt_of_le ha with rfl | c
    · exact hn
    · exact h5 a c hq
theorem isPq.done {n : Nat} {F : Nat → Rg} {q v : Nat} (hn : n = 2 ^ q) (h : isPq n F q 0 v) : isPd n F v := by
  rcases h with ⟨h1, h2⟩ | ⟨e, h1, -, h3, h4, h5⟩
  · exact Or.inr ⟨h1, fun a ha => h2 a (Nat.zero_le a) ((Nat.pow_lt_pow_iff_right (by decide)).mp (hn ▸ ha))⟩
  · subst h1
    exact Or.inl ⟨e, rfl, by rw [hn]; exact Nat.pow_lt_pow_right (by decide) h3, h4, fun a ha => h5 a (Nat.zero_le a) ha⟩
theorem agn_mod {n : Nat} {F : Nat → Rg} {d : Nat} (hn : 0 < n) : (∀ j, j < n → F j = F ((j + d) % n)) ↔ agn n F d := by
  unfold agn
  exact ⟨fun h j hj => by rw [mix_add hn]; exact h j hj, fun h j hj => by rw [← mix_add hn]; exact h j hj⟩
theorem ow_mk (n : Nat) (u : Int) (F : Nat → Rg) (j : Nat) : nR (osc n) * (F j + F (ix n (-(j : Int)))) + ps n u 1 (fun i => F i + F (ix n (-(i : Int)))) j * pw 0 = ow n u F j := by
  unfold ow
  rw [show pw 0 = 1 from rfl, fr_m1, fr_ac, Fin.mul_comm (nR (osc n))]
theorem pq_div {q n i : Nat} (hn : n = 2 ^ q) (hi : i < q) : ∃ t, q = t + 1 + i ∧ n / 2 ^ (i + 1) = 2 ^ t := by
  refine ⟨q - 1 - i, by omega, ?_⟩
  rw [hn, show q = (i + 1) + (q - 1 - i) by omega, Nat.pow_add, Nat.mul_div_cancel_left _ (Nat.two_pow_pos _), show i + 1 + (q - 1 - i) - 1 - i = q - 1 - i by omega]
theorem pq_top {q n : Nat} (hn : n = 2 ^ q) : n / 2 ^ (q + 1) = 0 := Nat.div_eq_of_lt (by rw [hn]; exact Nat.pow_lt_pow_right (by decide) (Nat.lt_succ_self q))
theorem pq_half (n i : Nat) : n / 2 ^ (i + 1) / 2 = n / 2 ^ (i + 1 + 1) := by rw [Nat.div_div_eq_div_mul, ← Nat.pow_succ]
