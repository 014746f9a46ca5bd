theorem tneg (a n : Int) : (-a) % n = 0 ↔ a % n = 0 := by
  rw [← Int.dvd_iff_emod_eq_zero, ← Int.dvd_iff_emod_eq_zero, Int.dvd_neg]
theorem tneg2 (a n : Int) : (-(-a % n)) % n = a % n := by
  have h := Int.emod_add_mul_ediv (-a) n
  have : -(-a % n) = a + n * (-a / n) := by omega
  rw [this, Int.add_mul_emod_self_left]
/-- a power of 2 that isn't 1 differs from 1 by a number with an inverse -/
theorem pz_field {e : Int} (h : e % 32 ≠ 0) : (pz e - 1) * iv (pz e - 1) = 1 := by
  have key : ∀ t : Nat, t < 32 → t ≠ 0 → (pw t - 1) * iv (pw t - 1) = 1 := by decide +kernel
  have h1 := Int.emod_nonneg e (b := 32) (by omega)
  exact key (e % 32).toNat (by omega) (by omega)
theorem pz_fix {a : Rg} {e : Int} (h : a * pz e = a) (ha : a ≠ 0) : e % 32 = 0 := by
  rcases Decidable.em (e % 32 = 0) with q | q
  · exact q
  · refine absurd ?_ ha
    have h2 := pz_field q
    have h3 : a * (pz e - 1) = 0 := by
      have : a * (pz e - 1) = a * pz e - a := by grind
      rw [this, h]; grind
    have h4 : a * ((pz e - 1) * iv (pz e - 1)) = 0 := by rw [← fr_ms, h3, fr_0m]
    rwa [h2, fr_m1] at h4
theorem un_0 {o n : Nat} (ho : okO o) (hn : okN n) (z : Int) : (un o n * z) % 32 = 0 ↔ z % (n : Int) = 0 := by
  obtain ⟨q, hq, rfl⟩ := ho.half
  unfold un st32
  rcases hn with rfl | rfl | rfl | rfl | rfl <;>
    rcases (show q = 0 ∨ q = 1 ∨ q = 2 ∨ q = 3 ∨ q = 4 ∨ q = 5 ∨ q = 6 ∨ q = 7 ∨ q = 8 ∨ q = 9 ∨ q = 10 ∨ q = 11 ∨ q = 12 ∨ q = 13 ∨ q = 14 ∨ q = 15 by omega) with rfl | rfl | rfl | rfl | rfl | rfl | rfl | rfl | rfl | rfl | rfl | rfl | rfl | rfl | rfl | rfl <;> omega
/-- (9) -/
theorem ps_again {o n : Nat} (ho : okO o) (hn : okN n) (F : Nat → Rg) (d : Nat) : (∀ j, j < n → F j = F (ix n ((j : Int) + d))) ↔ ∀ j, j < n → ps n (un o n) 1 F j ≠ 0 → ix n ((j * d : Nat) : Int) = 0 := by
  have hs : ∀ j, ps n (un o n) 1 (fun i => F (ix n ((i : Int) - (-(d : Int))))) j = ps n (un o n) 1 F j * pz (un o n * (-(d : Int) * j)) := fun j => ps_shift hn F (-(d : Int)) j
  have hz : ∀ j : Nat, (un o n * (-(d : Int) * j)) % 32 = 0 ↔ ix n ((j * d : Nat) : Int) = 0 := fun j => by
    rw [un_0 ho hn, Int.neg_mul, tneg, show (d : Int) * (j : Int) = ((j * d : Nat) : Int) by rw [Int.natCast_mul, Int.mul_comm]]
    have hc := ix_cast hn.pos ((j * d : Nat) : Int)
    omega
  constructor
  · intro h j hj hne
    rw [← hz]
    refine pz_fix (a := ps n (un o n) 1 F j) ?_ hne
    rw [← hs j]
    exact ps_c (fun i hi => by rw [show (i : Int) - (-(d : Int)) = (i : Int) + d by omega]; exact (h i hi).symm) j
  · intro h j hj
    have hi := ps_inj ho hn (F := F) (G := fun i => F (ix n ((i : Int) - (-(d : Int))))) (fun j hj => ?_) hj
    · rw [hi, show (j : Int) - (-(d : Int)) = (j : Int) + d by omega]
    · rw [hs j]
      rcases Decidable.em (ps n (un o n) 1 F j = 0) with q | q
      · rw [q, fr_0m]
      · rw [pz_32 ((hz j).mpr (h j hj q)), fr_m1]
/-- (10) -/
theorem osc_2 {n : Nat} (hn : n = 2 ∨ n = 4 ∨ n = 8 ∨ n = 16) : nR (osc n) * nR (osc n) = nR n := by rcases hn with rfl | rfl | rfl | rfl <;> decide +kernel
theorem ix_neg2 {n : Nat} (hn : 0 < n) (z : Int) {i : Nat} (hi : i < n) (hz : z = (i : Int)) : ix n (-((ix n (-z) : Nat) : Int)) = i := by
  subst hz
  have h := ix_cast hn (-(i : Int))
  have e : ix n (-((ix n (-(i : Int)) : Nat) : Int)) = ix n (i : Int) := by
    apply ix_cong
    rw [h, tneg2]
  rw [e, ix_of hi]
theorem ow_own {o n : Nat} (ho : okO o) (hn : n = 2 ∨ n = 4 ∨ n = 8 ∨ n = 16) (F : Nat → Rg) {j : Nat} (hj : j < n) : ps n (un o n) 1 (ow n (un o n) F) j = ow n (un o n) F j * nR (osc n) := by
  have hn5 : okN n := by unfold okN; omega
  have e1 : ps n (un o n) 1 (ow n (un o n) F) j = ps n (un o n) 1 (ps n (un o n) 1 (fun i => F i + F (ix n (-(i : Int))))) j + ps n (un o n) 1 (fun i => F i + F (ix n (-(i : Int)))) j * nR (osc n) := by
    rw [← ps_mulr, ← ps_add]
    rfl
  rw [e1, ps_ps ho hn5 _ hj]
  unfold ow
  rw [ix_neg2 hn5.pos _ hj rfl, ← osc_2 hn]
  generalize F (ix n (-(j : Int))) = a; generalize F j = b; generalize ps n (un o n) 1 (fun i => F i + F (ix n (-(i : Int)))) j = x; generalize nR (osc n) = w
  grind
/-- (11): the inverse of every number but 0 -/
def sq4 (x : Nat) : Nat := let a := x * x % 65537; let b := a * a % 65537; let c := b * b % 65537; c * c % 65537
def fermB (h : Nat) : Bool := (List.range 256).all fun k => sq4 (sq4 (sq4 (sq4 (256 * h + k)))) == (if h = 0 ∧ k = 0 then 0 else 1)
theorem sq4_val (x : Rg) : sq4 x.val = (x * x * (x * x) * (x * x * (x * x)) * (x * x * (x * x) * (x * x * (x * x)))).val := by
  simp only [sq4, Fin.val_mul]
theorem ivs_4 (x : Rg) (n : Nat) : (ivs x (n + 4)).2.val = sq4 (ivs x n).2.val := by
  rw [sq4_val]
  show (ivs x (n + 3 + 1)).2.val = _
  rw [ivs_s, show ivs x (n + 3) = ivs x (n + 2 + 1) from rfl, ivs_s, show ivs x (n + 2) = ivs x (n + 1 + 1) from rfl, ivs_s, ivs_s]
theorem ferm_all : ((List.range 256).all fun h => fermB h) = true := by decide +kernel
theorem iv_mul {x : Rg} (hx : x ≠ 0) : x * iv x = 1 := by
  have h1 : x * iv x = (ivs x 16).2 := ivs_x x 16
  rw [h1]
  apply Fin.ext
  rw [ivs_4 x 12, ivs_4 x 8, ivs_4 x 4, ivs_4 x 0]
  show sq4 (sq4 (sq4 (sq4 x.val))) = 1
  have hv := x.isLt
  rcases Nat.lt_or_ge x.val 65536 with q | q
  · have a1 := List.all_eq_true.mp ferm_all (x.val / 256) (List.mem_range.mpr (by omega))
    have a2 := List.all_eq_true.mp a1 (x.val % 256) (List.mem_range.mpr (by omega))
    rw [Nat.div_add_mod] at a2
    have a3 := eq_of_beq a2
    rw [a3, if_neg]
    intro z
    apply hx
    apply Fin.ext
    show x.val = 0
    omega
  · have : x.val = 65536 := by omega
    rw [this]
    decide +kernel
