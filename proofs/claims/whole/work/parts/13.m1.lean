/-! Arithmetic of the prime 65537: sums, powers of 2, values at the powers of a root -/
abbrev Rg : Type := Fin 65537
theorem fr_ac (a b : Rg) : a + b = b + a := Lean.Grind.Semiring.add_comm a b
theorem fr_as (a b c : Rg) : a + b + c = a + (b + c) := Lean.Grind.Semiring.add_assoc a b c
theorem fr_mc (a b : Rg) : a * b = b * a := Fin.mul_comm a b
theorem fr_ms (a b c : Rg) : a * b * c = a * (b * c) := Fin.mul_assoc a b c
theorem fr_ld (a b c : Rg) : a * (b + c) = a * b + a * c := Lean.Grind.Semiring.left_distrib a b c
theorem fr_rd (a b c : Rg) : (a + b) * c = a * c + b * c := Lean.Grind.Semiring.right_distrib a b c
theorem fr_m1 (a : Rg) : a * 1 = a := Fin.mul_one a
theorem fr_1m (a : Rg) : 1 * a = a := Fin.one_mul a
theorem fr_0m (a : Rg) : 0 * a = 0 := Fin.zero_mul a
theorem fr_m0 (a : Rg) : a * 0 = 0 := by rw [fr_mc, fr_0m]
theorem fr_0a (a : Rg) : 0 + a = a := by rw [fr_ac]; exact Lean.Grind.Semiring.add_zero a
theorem fr_a0 (a : Rg) : a + 0 = a := Lean.Grind.Semiring.add_zero a
theorem fr_test (a b c d : Rg) (h : a = b + c) : a * d - c * d = d * b := by grind
/-- sums -/
def sg : Nat → (Nat → Rg) → Rg
  | 0, _ => 0
  | n + 1, f => sg n f + f n
theorem sg_0 (f : Nat → Rg) : sg 0 f = 0 := rfl
theorem sg_s (n : Nat) (f : Nat → Rg) : sg (n + 1) f = sg n f + f n := rfl
theorem sg_c {f g : Nat → Rg} : ∀ {n : Nat}, (∀ i, i < n → f i = g i) → sg n f = sg n g
  | 0, _ => rfl
  | n + 1, h => by rw [sg_s, sg_s, sg_c (fun i hi => h i (by omega)), h n (by omega)]
theorem sg_add (f g : Nat → Rg) : ∀ n, sg n (fun i => f i + g i) = sg n f + sg n g
  | 0 => by rw [sg_0, sg_0, sg_0, fr_0a]
  | n + 1 => by
    rw [sg_s, sg_s, sg_s, sg_add f g n]
    generalize sg n f = x; generalize sg n g = y; generalize f n = z; generalize g n = w
    rw [fr_as, fr_as, ← fr_as y z w, fr_ac y z, fr_as]
theorem sg_mul (c : Rg) (f : Nat → Rg) : ∀ n, sg n (fun i => c * f i) = c * sg n f
  | 0 => by rw [sg_0, sg_0, fr_m0]
  | n + 1 => by rw [sg_s, sg_s, sg_mul c f n, fr_ld]
theorem sg_mulr (c : Rg) (f : Nat → Rg) (n : Nat) : sg n (fun i => f i * c) = sg n f * c := by
  rw [fr_mc, ← sg_mul]
  exact sg_c (fun i _ => fr_mc _ _)
theorem sg_z : ∀ n, sg n (fun _ => 0) = 0
  | 0 => rfl
  | n + 1 => by rw [sg_s, sg_z n, fr_0a]
theorem sg_swap (f : Nat → Nat → Rg) (m : Nat) : ∀ n, sg n (fun i => sg m (fun j => f i j)) = sg m (fun j => sg n (fun i => f i j))
  | 0 => by rw [sg_0]; exact (sg_z m).symm
  | n + 1 => by
    rw [sg_s, sg_swap f m n, ← sg_add]
    rfl
theorem sg_one (f : Nat → Rg) {k : Nat} : ∀ {n : Nat}, k < n → sg n (fun i => if i = k then f i else 0) = f k
  | 0, h => absurd h (Nat.not_lt_zero k)
  | n + 1, h => by
    rw [sg_s]
    by_cases e : n = k
    · subst e
      rw [if_pos rfl, show sg n (fun i => if i = n then f i else 0) = 0 from ?_, fr_0a]
      exact (sg_c (g := fun _ => 0) (fun i hi => if_neg (Nat.ne_of_lt hi))).trans (sg_z n)
    · rw [if_neg e, sg_one f (n := n) (by omega), fr_a0]
theorem sg_first (f : Nat → Rg) : ∀ n, sg (n + 1) f = f 0 + sg n (fun i => f (i + 1))
  | 0 => by rw [sg_s, sg_0, sg_0, fr_0a, fr_a0]
  | n + 1 => by rw [sg_s, sg_first f n, sg_s, fr_as]
theorem sg_two (f : Nat → Rg) : ∀ h, sg (2 * h) f = sg h (fun t => f (2 * t)) + sg h (fun t => f (2 * t + 1))
  | 0 => by rw [sg_0, sg_0, fr_0a]; rfl
  | h + 1 => by
    rw [show 2 * (h + 1) = 2 * h + 1 + 1 by omega, sg_s, sg_s, sg_two f h, sg_s, sg_s]
    generalize sg h (fun t => f (2 * t)) = x; generalize sg h (fun t => f (2 * t + 1)) = y; generalize f (2 * h) = z; generalize f (2 * h + 1) = w
    rw [fr_as, fr_as, fr_as, ← fr_as y z w, fr_ac y z, fr_as]
theorem sg_app (f : Nat → Rg) (n : Nat) : ∀ m, sg (n + m) f = sg n f + sg m (fun i => f (n + i))
  | 0 => by rw [sg_0, fr_a0]; rfl
  | m + 1 => by rw [← Nat.add_assoc, sg_s, sg_app f n m, sg_s, fr_as]
/-- places of a row of n, any whole number -/
def ix (n : Nat) (z : Int) : Nat := (z % (n : Int)).toNat
theorem ix_lt {n : Nat} (hn : 0 < n) (z : Int) : ix n z < n := by
  unfold ix
  have h1 := Int.emod_nonneg z (b := (n : Int)) (by omega)
  have h2 := Int.emod_lt_of_pos z (b := (n : Int)) (by omega)
  omega
theorem ix_cast {n : Nat} (hn : 0 < n) (z : Int) : ((ix n z : Nat) : Int) = z % (n : Int) := by
  unfold ix
  have h1 := Int.emod_nonneg z (b := (n : Int)) (by omega)
  omega
theorem ix_of {n k : Nat} (h : k < n) : ix n (k : Int) = k := by
  unfold ix
  rw [Int.emod_eq_of_lt (by omega) (by omega)]
  omega
theorem ix_cong {n : Nat} {y z : Int} (h : y % (n : Int) = z % (n : Int)) : ix n y = ix n z := by unfold ix; rw [h]
theorem ix_add {n : Nat} (hn : 0 < n) (y z : Int) : ix n ((ix n y : Nat) + z) = ix n (y + z) := by
  apply ix_cong
  rw [ix_cast hn, Int.emod_add_emod]
theorem sg_rot1 (g : Nat → Rg) : ∀ {n : Nat}, 0 < n → sg n (fun k => g (ix n ((k : Int) + 1))) = sg n g
  | 0, h => absurd h (Nat.lt_irrefl 0)
  | n + 1, _ => by
    rw [sg_s, sg_first g n, show ix (n + 1) ((n : Int) + 1) = 0 from ?_, fr_ac]
    · congr 1
      exact sg_c (fun i hi => by rw [show ((i : Int) + 1) = ((i + 1 : Nat) : Int) by omega, ix_of (by omega)])
    · unfold ix
      rw [show ((n : Int) + 1) = ((n + 1 : Nat) : Int) by omega, Int.emod_self]
      rfl
theorem sg_rotN (g : Nat → Rg) {n : Nat} (hn : 0 < n) : ∀ t : Nat, sg n (fun k => g (ix n ((k : Int) + t))) = sg n g
  | 0 => sg_c (fun i hi => by rw [show ((i : Int) + (0 : Nat)) = (i : Int) by omega, ix_of hi])
  | t + 1 => by
    rw [← sg_rotN g hn t, ← sg_rot1 (fun k => g (ix n ((k : Int) + t))) hn]
    exact sg_c (fun i hi => by rw [ix_add hn, show ((i : Int) + 1 + t) = (i : Int) + ((t + 1 : Nat) : Int) by omega])
theorem sg_rot (g : Nat → Rg) {n : Nat} (hn : 0 < n) (s : Int) : sg n (fun k => g (ix n ((k : Int) + s))) = sg n g := by
  rw [← sg_rotN g hn (ix n s)]
  refine sg_c (fun i hi => ?_)
  rw [Int.add_comm, Int.add_comm (i : Int), ix_add hn]
/-- powers of 2 -/
def pw (k : Nat) : Rg := Fin.ofNat 65537 (2 ^ k)
theorem pw_add (a b : Nat) : pw (a + b) = pw a * pw b := by
  apply Fin.ext
  rw [Fin.val_mul]
  show 2 ^ (a + b) % 65537 = (2 ^ a % 65537) * (2 ^ b % 65537) % 65537
  rw [Nat.pow_add, ← Nat.mul_mod]
theorem pw_32 : pw 32 = 1 := by decide +kernel
theorem pw_k : ∀ q : Nat, pw (32 * q) = 1
  | 0 => by decide +kernel
  | q + 1 => by rw [show 32 * (q + 1) = 32 * q + 32 by omega, pw_add, pw_k q, pw_32, fr_m1]
theorem pw_mod (a : Nat) : pw (a % 32) = pw a := by
  have h := pw_add (32 * (a / 32)) (a % 32)
  rw [pw_k, fr_1m, Nat.div_add_mod] at h
  exact h.symm
def pz (z : Int) : Rg := pw (z % 32).toNat
theorem pz_nat (a : Nat) : pz (a : Int) = pw a := by
  unfold pz
  rw [show ((a : Int) % 32).toNat = a % 32 by omega, pw_mod]
theorem pz_cong {y z : Int} (h : y % 32 = z % 32) : pz y = pz z := by unfold pz; rw [h]
theorem pz_add (y z : Int) : pz (y + z) = pz y * pz z := by
  unfold pz
  rw [← pw_add, ← pw_mod ((y % 32).toNat + (z % 32).toNat)]
  congr 1
  have h1 := Int.emod_nonneg y (b := 32) (by omega)
  have h2 := Int.emod_nonneg z (b := 32) (by omega)
  omega
theorem pz_0 : pz 0 = 1 := by decide +kernel
theorem pz_neg (z : Int) : pz z * pz (-z) = 1 := by rw [← pz_add, Int.add_right_neg, pz_0]
theorem pz_32 {z : Int} (h : z % 32 = 0) : pz z = 1 := by rw [← pz_0]; exact pz_cong (by rw [h]; rfl)
theorem pz_16 : pz 16 + 1 = 0 := by decide +kernel
