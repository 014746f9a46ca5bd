theorem ps_one {o n : Nat} (hn : okN n) (j : Nat) : ps n (un o n) 1 (fun i => if i = 0 then 1 else 0) j = 1 := by
  have h := sg_one (fun i => pz (un o n * (1 * (i : Int) * j))) hn.pos
  rw [show pz (un o n * (1 * ((0 : Nat) : Int) * j)) = 1 by rw [show un o n * (1 * ((0 : Nat) : Int) * j) = 0 by simp]; exact pz_0] at h
  refine (sg_c (g := fun i => if i = 0 then pz (un o n * (1 * (i : Int) * j)) else 0) (fun i _ => ?_)).trans h
  show (if i = 0 then (1 : Rg) else 0) * pz (un o n * (1 * (i : Int) * j)) = if i = 0 then pz (un o n * (1 * (i : Int) * j)) else 0
  by_cases q : i = 0
  · rw [if_pos q, if_pos q, fr_1m]
  · rw [if_neg q, if_neg q, fr_0m]
theorem rp_inv {o n : Nat} (ho : okO o) (hn : okN n) (F : Nat → Rg) (h : ∀ j, j < n → ps n (un o n) 1 F j ≠ 0) {k : Nat} (hk : k < n) : rp n F (bk n (un o n) (fun i => iv (ps n (un o n) 1 F i))) k = if k = 0 then 1 else 0 := by
  refine ps_inj ho hn (F := rp n F (bk n (un o n) (fun i => iv (ps n (un o n) 1 F i)))) (G := fun k => if k = 0 then 1 else 0) (fun j hj => ?_) hk
  rw [ps_rp hn, ps_bk ho hn _ hj, iv_mul (h j hj), ps_one hn]
/-- (1) -/
theorem un_h {o h : Nat} (hh : okH h) : un o h = un o (2 * h) * 2 := by
  unfold un
  rw [Int.mul_assoc]
  rcases hh with rfl | rfl | rfl | rfl <;> rfl
theorem okH.N {h : Nat} (hh : okH h) : okN h := by unfold okH at hh; unfold okN; omega
theorem okH.N2 {h : Nat} (hh : okH h) : okN (2 * h) := by unfold okH at hh; unfold okN; omega
theorem ps_split {o h : Nat} (hh : okH h) (G : Nat → Rg) (j : Nat) : ps (2 * h) (un o (2 * h)) 1 G j = ps h (un o h) 1 (fun t => G (2 * t)) j + ps h (un o h) 1 (fun t => G (2 * t + 1)) j * pz (un o (2 * h) * j) := by
  unfold ps
  rw [sg_two, ← sg_mulr]
  congr 1
  · refine sg_c (fun t _ => congrArg (fun z => G (2 * t) * pz z) ?_)
    rw [un_h hh, Int.natCast_mul]
    generalize un o (2 * h) = v
    show v * (1 * (2 * (t : Int)) * (j : Int)) = v * 2 * (1 * (t : Int) * (j : Int))
    grind
  · refine sg_c (fun t _ => ?_)
    rw [fr_ms, ← pz_add]
    refine congrArg (fun z => G (2 * t + 1) * pz z) ?_
    rw [un_h hh, Int.natCast_add, Int.natCast_mul]
    generalize un o (2 * h) = v
    show v * (1 * (2 * (t : Int) + 1) * (j : Int)) = v * 2 * (1 * (t : Int) * (j : Int)) + v * (j : Int)
    grind
theorem ps_up {o h : Nat} (hh : okH h) (G : Nat → Rg) (j : Nat) : ps h (un o h) 1 G (j + h) = ps h (un o h) 1 G j := by
  refine sg_c (fun i _ => ?_)
  congr 1
  refine pz_per hh.N _ _ ?_
  rw [Int.natCast_add, Int.mul_add, Int.add_mul_emod_self_right]
theorem pz_half {o h : Nat} (ho : okO o) (hh : okH h) (j : Nat) : pz (un o (2 * h) * ((j + h : Nat) : Int)) + pz (un o (2 * h) * j) = 0 := by
  have e : un o (2 * h) * (h : Int) = (o : Int) * 16 := by
    unfold un
    rw [Int.mul_assoc]
    rcases hh with rfl | rfl | rfl | rfl <;> rfl
  have e2 : pz ((o : Int) * 16) = pz 16 := pz_cong (by unfold okO at ho; omega)
  rw [Int.natCast_add, Int.mul_add, pz_add, e, e2]
  have := pz_16
  generalize pz (un o (2 * h) * (j : Int)) = x
  generalize pz 16 = y at this
  have e3 : x * y + x = x * (y + 1) := by rw [fr_ld, fr_m1]
  rw [e3, this, fr_m0]
theorem ps_split2 {o h : Nat} (ho : okO o) (hh : okH h) (G : Nat → Rg) (j : Nat) : ps (2 * h) (un o (2 * h)) 1 G (j + h) = ps h (un o h) 1 (fun t => G (2 * t)) j - ps h (un o h) 1 (fun t => G (2 * t + 1)) j * pz (un o (2 * h) * j) := by
  rw [ps_split hh, ps_up hh, ps_up hh]
  have := pz_half ho hh j
  generalize pz (un o (2 * h) * ((j + h : Nat) : Int)) = y at *
  generalize pz (un o (2 * h) * (j : Int)) = x at *
  generalize ps h (un o h) 1 (fun t => G (2 * t)) j = a
  generalize ps h (un o h) 1 (fun t => G (2 * t + 1)) j = b
  have e : y = -x := by grind
  rw [e]
  grind
/-- halving from its end -/
def hw (h w o : Nat) (F : Nat → Rg) (t : Nat) : Rg := ps h (un o h) 1 (fun s => F (t / h + w * s)) (t % h)
theorem hw_1 (w o : Nat) (F : Nat → Rg) (t : Nat) : hw 1 w o F t = F t := by
  unfold hw ps
  rw [sg_s, sg_0, fr_0a]
  show F (t / 1 + w * 0) * pz (un o 1 * (1 * ((0 : Nat) : Int) * ((t % 1 : Nat) : Int))) = F t
  rw [Nat.div_one, Nat.mul_zero, Nat.add_zero, show un o 1 * (1 * ((0 : Nat) : Int) * ((t % 1 : Nat) : Int)) = 0 by simp, pz_0, fr_m1]
theorem hw_n {n o t : Nat} (F : Nat → Rg) (ht : t < n) : hw n 1 o F t = ps n (un o n) 1 F t := by
  unfold hw
  rw [Nat.div_eq_of_lt ht, Nat.mod_eq_of_lt ht]
  exact ps_c (fun i _ => by rw [Nat.zero_add, Nat.one_mul]) t
theorem hw_s {h q o : Nat} (ho : okO o) (hh : okH h) (F : Nat → Rg) (t : Nat) : jn h q (un o (2 * h)) (hw h (2 * q) o F) t = hw (2 * h) q o F t := by
  have hp : 0 < h := hh.N.pos
  have d1 : ∀ a b : Nat, b < h → (a * h + b) / h = a ∧ (a * h + b) % h = b := fun a b hb => by
    rw [Nat.mul_comm a h, Nat.mul_add_div hp, Nat.div_eq_of_lt hb, Nat.mul_add_mod, Nat.mod_eq_of_lt hb]; exact ⟨rfl, rfl⟩
  unfold jn
  by_cases c : t % (2 * h) < h
  · rw [if_pos c]
    unfold hw
    rw [(d1 _ _ c).1, (d1 _ _ c).2, (d1 _ _ c).1, (d1 _ _ c).2, ps_split hh]
    congr 1
    · exact ps_c (fun s _ => by rw [Nat.mul_assoc, Nat.mul_left_comm]) _
    · congr 1
      exact ps_c (fun s _ => by congr 1; rw [Nat.mul_add, Nat.mul_one, Nat.mul_left_comm, Nat.mul_assoc]; omega) _
  · rw [if_neg c]
    have c2 : t % (2 * h) - h < h := by have := Nat.mod_lt t (y := 2 * h) (by omega); omega
    unfold hw
    rw [(d1 _ _ c2).1, (d1 _ _ c2).2, (d1 _ _ c2).1, (d1 _ _ c2).2, show t % (2 * h) = t % (2 * h) - h + h by omega, ps_split2 ho hh, show t % (2 * h) - h + h - h = t % (2 * h) - h by omega]
    congr 1
    · exact ps_c (fun s _ => by rw [Nat.mul_assoc, Nat.mul_left_comm]) _
    · congr 1
      exact ps_c (fun s _ => by congr 1; rw [Nat.mul_add, Nat.mul_one, Nat.mul_left_comm, Nat.mul_assoc]; omega) _
/-- (5) -/
theorem rp_ext {n : Nat} (F G : Nat → Rg) {k : Nat} (hk : k < 2 * n) : rp (2 * n) (fun j => if j < n then F j else 0) (fun j => if j < n then G j else 0) k = pp n F G k := by
  unfold rp pp
  rw [show 2 * n = n + n by omega, sg_app]
  rw [show sg n (fun i => (if n + i < n then F (n + i) else 0) * (if ix (n + n) ((k : Int) - ((n + i : Nat) : Int)) < n then G (ix (n + n) ((k : Int) - ((n + i : Nat) : Int))) else 0)) = 0 from ?_, fr_a0]
  · refine sg_c (fun i hi => ?_)
    show (if i < n then F i else 0) * (if ix (n + n) ((k : Int) - (i : Int)) < n then G (ix (n + n) ((k : Int) - (i : Int))) else 0) = sg n (fun j => if i + j = k then F i * G j else 0)
    rw [if_pos hi]
    by_cases c : i ≤ k
    · have e : ix (n + n) ((k : Int) - (i : Int)) = k - i := by rw [show (k : Int) - (i : Int) = ((k - i : Nat) : Int) by omega, ix_of (by omega)]
      rw [e]
      by_cases c2 : k - i < n
      · rw [if_pos c2, ← sg_one (fun j => F i * G j) c2]
        exact sg_c (fun j _ => by by_cases z : j = k - i; rw [if_pos z, if_pos (by omega)]; rw [if_neg z, if_neg (by omega)])
      · rw [if_neg c2, fr_m0]
        exact ((sg_c (g := fun _ => 0) (fun j hj => if_neg (by omega))).trans (sg_z n)).symm
    · have e : ix (n + n) ((k : Int) - (i : Int)) = k + 2 * n - i := by
        rw [ix_cong (z := ((k + 2 * n - i : Nat) : Int)) (by rw [show ((k + 2 * n - i : Nat) : Int) = ((k : Int) - i) + ((n + n : Nat) : Int) by omega, Int.add_emod_right]), ix_of (by omega)]
      rw [e, if_neg (by omega), fr_m0]
      exact ((sg_c (g := fun _ => 0) (fun j hj => if_neg (by omega))).trans (sg_z n)).symm
  · exact (sg_c (g := fun _ => 0) (fun i _ => by rw [if_neg (by omega), fr_0m])).trans (sg_z n)
theorem pp_last {n : Nat} (F G : Nat → Rg) (hn : 0 < n) : pp n F G (2 * n - 1) = 0 := by
  unfold pp
  exact (sg_c (g := fun _ => 0) (fun i hi => (sg_c (g := fun _ => 0) (fun j hj => if_neg (by omega))).trans (sg_z n))).trans (sg_z n)
/-- all pairs, at the sum of both places -/
def mq (n m : Nat) (F G : Nat → Rg) (k : Nat) : Rg := sg n (fun i => sg n (fun j => if (i + j) % m = k then F i * G j else 0))
theorem mq_pp {n : Nat} (F G : Nat → Rg) (k : Nat) : mq n (2 * n) F G k = pp n F G k := sg_c (fun i hi => sg_c (fun j hj => by rw [Nat.mod_eq_of_lt (by omega)]))
theorem mq_rp {n : Nat} (F G : Nat → Rg) {k : Nat} (hk : k < n) : mq n n F G k = rp n F G k := by
  refine sg_c (fun i hi => ?_)
  rw [← sg_one (fun j => F i * G j) (ix_lt (by omega) ((k : Int) - i))]
  refine sg_c (fun j hj => ?_)
  have hc := ix_cast (n := n) (by omega) ((k : Int) - i)
  have e : (i + j) % n = k ↔ j = ix n ((k : Int) - i) := by
    rcases Nat.lt_or_ge k i with z | z
    · have h1 : ((k : Int) - i) % (n : Int) = (k : Int) - i + n := by rw [← Int.add_emod_right, Int.emod_eq_of_lt (by omega) (by omega)]
      rcases Nat.lt_or_ge (i + j) n with y | y
      · rw [Nat.mod_eq_of_lt y]; omega
      · rw [Nat.mod_eq_sub_mod y, Nat.mod_eq_of_lt (by omega)]; omega
    · have h1 : ((k : Int) - i) % (n : Int) = (k : Int) - i := Int.emod_eq_of_lt (by omega) (by omega)
      rcases Nat.lt_or_ge (i + j) n with y | y
      · rw [Nat.mod_eq_of_lt y]; omega
      · rw [Nat.mod_eq_sub_mod y, Nat.mod_eq_of_lt (by omega)]; omega
  by_cases c : j = ix n ((k : Int) - i)
  · rw [if_pos c, if_pos (e.mpr c)]
  · rw [if_neg c, if_neg (fun h => c (e.mp h))]
/-- numbers by their digits -/
theorem sn_c {f g : Nat → Nat} : ∀ {n : Nat}, (∀ i, i < n → f i = g i) → sn n f = sn n g
  | 0, _ => rfl
  | n + 1, h => by rw [sn_s, sn_s, sn_c (fun i hi => h i (by omega)), h n (by omega)]
theorem sn_add (f g : Nat → Nat) : ∀ n, sn n (fun i => f i + g i) = sn n f + sn n g
  | 0 => rfl
  | n + 1 => by rw [sn_s, sn_s, sn_s, sn_add f g n]; omega
theorem sn_app (f : Nat → Nat) (n : Nat) : ∀ m, sn (n + m) f = sn n f + sn m (fun i => f (n + i))
  | 0 => rfl
  | m + 1 => by rw [← Nat.add_assoc, sn_s, sn_app f n m, sn_s]; omega
theorem sn_mul (c : Nat) (f : Nat → Nat) : ∀ n, sn n (fun i => c * f i) = c * sn n f
  | 0 => rfl
  | n + 1 => by rw [sn_s, sn_s, sn_mul c f n, Nat.mul_add]
theorem sn_z : ∀ n, sn n (fun _ => 0) = 0
  | 0 => rfl
  | n + 1 => by rw [sn_s, sn_z n]
theorem sn_swap (f : Nat → Nat → Nat) (m : Nat) : ∀ n, sn n (fun i => sn m (fun j => f i j)) = sn m (fun j => sn n (fun i => f i j))
  | 0 => (sn_z m).symm
  | n + 1 => by rw [sn_s, sn_swap f m n, ← sn_add]; rfl
theorem dg_sum (x : Int32) : sn 8 (fun t => (dg x t).val * 2 ^ (4 * t)) = x.toBitVec.toNat := by
  have h := x.toBitVec.isLt
  simp only [sn, dg_val]
  generalize x.toBitVec.toNat = a at *
  simp only [Nat.reduceMul, Nat.reducePow]
  omega
theorem dg_rot (y : Nat → Nat) (h0 : ∀ k, 8 ≤ k → y k = 0) {i : Nat} (hi : i < 8) : sn 16 (fun k => y (ix 16 ((k : Int) - i)) * 2 ^ (4 * k)) = 2 ^ (4 * i) * sn 8 (fun t => y t * 2 ^ (4 * t)) := by
  have e : ∀ k : Nat, k < 16 → ix 16 ((k : Int) - i) = if i ≤ k then k - i else k + 16 - i := fun k hk => by
    unfold ix
    split <;> omega
  rw [show 16 = i + (8 + (8 - i)) by omega, sn_app, sn_app]
  rw [show i + (8 + (8 - i)) = 16 by omega]
  rw [(sn_c (g := fun _ => 0) (fun k hk => by rw [e k (by omega), if_neg (by omega), h0 _ (by omega), Nat.zero_mul]) : sn i _ = _), sn_z, Nat.zero_add]
  rw [(sn_c (g := fun _ => 0) (fun k hk => by rw [e _ (by omega), if_pos (by omega), h0 _ (by omega), Nat.zero_mul]) : sn (8 - i) _ = _), sn_z, Nat.add_zero, ← sn_mul]
  refine sn_c (fun t ht => ?_)
  rw [e _ (by omega), if_pos (by omega), show i + t - i = t by omega, Nat.mul_add, Nat.pow_add, Nat.mul_left_comm]
theorem dg_prod (x y : Int32) : sn 16 (fun k => (rp 16 (dg x) (dg y) k).val * 2 ^ (4 * k)) = x.toBitVec.toNat * y.toBitVec.toNat := by
  have e1 : ∀ k : Nat, (rp 16 (dg x) (dg y) k).val = sn 16 (fun i => (dg x i).val * (dg y (ix 16 ((k : Int) - i))).val) := fun k => by
    have h := sn_val (dg x) (fun i => dg y (ix 16 ((k : Int) - i))) 16
    have hb := sn_le (f := fun i => (dg x i).val * (dg y (ix 16 ((k : Int) - i))).val) (b := 225) (fun i => Nat.mul_le_mul (show (dg x i).val ≤ 15 by rw [dg_val]; omega) (show (dg y (ix 16 ((k : Int) - i))).val ≤ 15 by rw [dg_val]; omega)) 16
    rw [Nat.mod_eq_of_lt (by omega)] at h
    exact h.symm
  have e2 : ∀ k : Nat, (rp 16 (dg x) (dg y) k).val * 2 ^ (4 * k) = sn 16 (fun i => (dg x i).val * ((dg y (ix 16 ((k : Int) - i))).val * 2 ^ (4 * k))) := fun k => by
    rw [e1 k, Nat.mul_comm, ← sn_mul]
    exact sn_c (fun i _ => by rw [Nat.mul_comm, Nat.mul_assoc])
  rw [sn_c (fun k _ => e2 k), sn_swap]
  have e3 : ∀ i, i < 16 → sn 16 (fun k => (dg x i).val * ((dg y (ix 16 ((k : Int) - i))).val * 2 ^ (4 * k))) = if i < 8 then (dg x i).val * 2 ^ (4 * i) * y.toBitVec.toNat else 0 := fun i hi => by
    rw [sn_mul]
    by_cases c : i < 8
    · rw [if_pos c, dg_rot (fun t => (dg y t).val) (fun k hk => by rw [dg_0 y hk]; rfl) c, dg_sum, Nat.mul_assoc]
    · rw [if_neg c, dg_0 x (by omega)]; exact Nat.zero_mul _
  rw [sn_c e3]
  have e4 : sn 16 (fun i => if i < 8 then (dg x i).val * 2 ^ (4 * i) * y.toBitVec.toNat else 0) = sn 8 (fun i => y.toBitVec.toNat * ((dg x i).val * 2 ^ (4 * i))) := by
    simp [sn, Nat.mul_comm]
  rw [e4, sn_mul, dg_sum, Nat.mul_comm]
