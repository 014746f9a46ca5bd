theorem rp_fold (n : Nat) (F G : Nat → Rg) (k : Nat) : sn n (fun i => (F i).val * ((fun i => G (ix n ((k : Int) - i))) i).val) % 65537 = (rp n F G k).val := sn_val F (fun i => G (ix n ((k : Int) - i))) n
def pq (n : Nat) (F G : Nat → Rg) (i j t : Nat) : Rg := sg i (fun a => sg n (fun b => if a + b = t then F a * G b else 0)) + sg j (fun b => if i + b = t then F i * G b else 0)
theorem pq_00 (n : Nat) (F G : Nat → Rg) (t : Nat) : pq n F G 0 0 t = 0 := by unfold pq; rw [sg_0, sg_0, fr_0a]
theorem pq_row (n : Nat) (F G : Nat → Rg) (i t : Nat) : pq n F G i n t = pq n F G (i + 1) 0 t := by unfold pq; rw [sg_s, sg_0, fr_a0]
theorem pq_end (n : Nat) (F G : Nat → Rg) (t : Nat) : pq n F G n 0 t = pp n F G t := by unfold pq pp; rw [sg_0, fr_a0]
theorem pq_in (n : Nat) (F G : Nat → Rg) (i j : Nat) : pq n F G i (j + 1) (i + j) = pq n F G i j (i + j) + F i * G j := by unfold pq; rw [sg_s, if_pos rfl, fr_as]
theorem pq_out (n : Nat) (F G : Nat → Rg) {i j t : Nat} (h : t ≠ i + j) : pq n F G i (j + 1) t = pq n F G i j t := by unfold pq; rw [sg_s, if_neg (fun e => h e.symm), fr_a0]
/-- inverses: the power of 65535 by 16 squarings -/
def ivs (x : Rg) : Nat → Rg × Rg
  | 0 => (1, x)
  | n + 1 => ((ivs x n).1 * (ivs x n).2, (ivs x n).2 * (ivs x n).2)
def iv (x : Rg) : Rg := (ivs x 16).1
theorem ivs_s (x : Rg) (n : Nat) : ivs x (n + 1) = ((ivs x n).1 * (ivs x n).2, (ivs x n).2 * (ivs x n).2) := rfl
theorem ivs_x (x : Rg) : ∀ n, x * (ivs x n).1 = (ivs x n).2
  | 0 => fr_m1 x
  | n + 1 => by rw [ivs_s]; show x * ((ivs x n).1 * (ivs x n).2) = (ivs x n).2 * (ivs x n).2; rw [← fr_ms, ivs_x x n]
/-- powers of 2, as Java makes them -/
theorem j_two (x : Int32) : ∃ t : Nat, t < 32 ∧ x &&& nI 31 = nI t ∧ (t : Int) = x.toInt % 32 := by
  refine ⟨x.toBitVec.toNat % 2 ^ 5, by omega, pk_and x 5 (by decide +kernel), ?_⟩
  rw [show x.toInt = x.toBitVec.toInt from rfl, BitVec.toInt_eq_toNat_cond]
  have h2 := x.toBitVec.isLt
  split <;> omega
theorem j_two1 {t : Nat} (ht : t < 16) : nI 1 <<< (nI t &&& 31) = nI (pw t).val := by
  rcases (show t = 0 ∨ t = 1 ∨ t = 2 ∨ t = 3 ∨ t = 4 ∨ t = 5 ∨ t = 6 ∨ t = 7 ∨ t = 8 ∨ t = 9 ∨ t = 10 ∨ t = 11 ∨ t = 12 ∨ t = 13 ∨ t = 14 ∨ t = 15 by omega) with rfl | rfl | rfl | rfl | rfl | rfl | rfl | rfl | rfl | rfl | rfl | rfl | rfl | rfl | rfl | rfl <;> decide +kernel
theorem j_two2 {t : Nat} (h1 : 16 ≤ t) (h2 : t < 32) : (65537 : Int32) - nI 1 <<< ((nI t - nI 16) &&& 31) = nI (pw t).val := by
  rcases (show t = 16 ∨ t = 17 ∨ t = 18 ∨ t = 19 ∨ t = 20 ∨ t = 21 ∨ t = 22 ∨ t = 23 ∨ t = 24 ∨ t = 25 ∨ t = 26 ∨ t = 27 ∨ t = 28 ∨ t = 29 ∨ t = 30 ∨ t = 31 by omega) with rfl | rfl | rfl | rfl | rfl | rfl | rfl | rfl | rfl | rfl | rfl | rfl | rfl | rfl | rfl | rfl <;> decide +kernel
theorem j_pz {x : Int32} {z : Int} (hz : x.toInt % 4294967296 = z % 4294967296) {t : Nat} (ht : (t : Int) = x.toInt % 32) : pw t = pz z := by
  unfold pz
  congr 1
  omega
/-- the step of a root: 32 divided by the length -/
def st32 (n : Nat) : Nat := 32 / n
def un (o n : Nat) : Int := (o : Int) * (st32 n : Int)
