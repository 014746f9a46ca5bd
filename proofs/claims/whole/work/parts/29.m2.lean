/-! values at the powers of a root: the theorem's sentences -/
def okO (o : Nat) : Prop := o % 2 = 1 ∧ o < 32
theorem okO.half {o : Nat} (h : okO o) : ∃ q, q < 16 ∧ o = 2 * q + 1 := ⟨o / 2, by unfold okO at h; omega, by unfold okO at h; omega⟩
theorem un_n {o n : Nat} (hn : okN n) : un o n * (n : Int) = (o : Int) * 32 := by
  unfold un
  rw [Int.mul_assoc]
  rcases hn with rfl | rfl | rfl | rfl | rfl <;> rfl
theorem pz_per {o n : Nat} (hn : okN n) (a b : Int) (h : a % (n : Int) = b % (n : Int)) : pz (un o n * a) = pz (un o n * b) := by
  apply pz_cong
  have e : ∃ k, a = b + (n : Int) * k := ⟨(a - b) / (n : Int), by rw [Int.mul_ediv_cancel' (Int.dvd_of_emod_eq_zero (Int.emod_eq_emod_iff_emod_sub_eq_zero.mp h))]; omega⟩
  obtain ⟨k, rfl⟩ := e
  rw [Int.mul_add, ← Int.mul_assoc, un_n hn, show (o : Int) * 32 * k = 32 * ((o : Int) * k) by rw [Int.mul_comm (o : Int) 32, Int.mul_assoc], Int.add_mul_emod_self_left]
def orthB (n : Nat) : Bool := (List.range 16).all fun h => (List.range n).all fun r => decide (sg n (fun k => pz (un (2 * h + 1) n * ((r : Int) * k))) = if r = 0 then nR n else 0)
theorem orthB_1 : orthB 1 = true := by decide +kernel
theorem orthB_2 : orthB 2 = true := by decide +kernel
theorem orthB_4 : orthB 4 = true := by decide +kernel
theorem orthB_8 : orthB 8 = true := by decide +kernel
theorem orthB_16 : orthB 16 = true := by decide +kernel
theorem orth0 {o n r : Nat} (ho : okO o) (hn : okN n) (hr : r < n) : sg n (fun k => pz (un o n * ((r : Int) * k))) = if r = 0 then nR n else 0 := by
  obtain ⟨q, hq, rfl⟩ := ho.half
  have hb : orthB n = true := by rcases hn with rfl | rfl | rfl | rfl | rfl; exact orthB_1; exact orthB_2; exact orthB_4; exact orthB_8; exact orthB_16
  have h1 := List.all_eq_true.mp hb q (List.mem_range.mpr hq)
  have h2 := List.all_eq_true.mp h1 r (List.mem_range.mpr hr)
  exact of_decide_eq_true h2
theorem orth {o n : Nat} (ho : okO o) (hn : okN n) (a : Int) : sg n (fun k => pz (un o n * (a * k))) = if a % (n : Int) = 0 then nR n else 0 := by
  have hp := hn.pos
  have h := orth0 ho hn (ix_lt hp a)
  have e : ∀ k : Nat, pz (un o n * (a * k)) = pz (un o n * (((ix n a : Nat) : Int) * k)) := fun k => pz_per hn _ _ (by rw [ix_cast hp, Int.mul_emod (a % (n : Int)), Int.emod_emod_of_dvd _ (Int.dvd_refl _), ← Int.mul_emod])
  rw [sg_c (fun k _ => e k), h]
  have hc := ix_cast hp a
  by_cases q : a % (n : Int) = 0
  · rw [if_pos q, if_pos (by omega)]
  · rw [if_neg q, if_neg (by omega)]
theorem two_sums {o n : Nat} (ho : okO o) (hn : okN n) (F : Nat → Rg) (a b : Int) : sg n (fun j => sg n (fun t => F t * pz (un o n * (a * t * j))) * pz (un o n * (b * j))) = sg n (fun t => F t * (if (a * t + b) % (n : Int) = 0 then nR n else 0)) := by
  have e : ∀ j, sg n (fun t => F t * pz (un o n * (a * t * j))) * pz (un o n * (b * j)) = sg n (fun t => F t * pz (un o n * ((a * t + b) * j))) := fun j => by
    rw [← sg_mulr]
    exact sg_c (fun t _ => by rw [fr_ms, ← pz_add]; congr 2; rw [← Int.mul_add, ← Int.add_mul])
  rw [sg_c (fun j _ => e j), sg_swap]
  exact sg_c (fun t _ => by rw [sg_mul, orth ho hn])
theorem sg_sel {n c : Nat} (F : Nat → Rg) (x : Rg) (p : Nat → Prop) [DecidablePred p] (hc : c < n) (h : ∀ t, t < n → (p t ↔ t = c)) : sg n (fun t => F t * (if p t then x else 0)) = F c * x := by
  rw [← sg_one (fun t => F t * x) hc]
  refine sg_c (fun t ht => ?_)
  by_cases q : t = c
  · rw [if_pos ((h t ht).mpr q), if_pos q]
  · rw [if_neg (fun z => q ((h t ht).mp z)), if_neg q, fr_m0]
theorem iv_n {n : Nat} (hn : okN n) : nR n * iv (nR n) = 1 := by rcases hn with rfl | rfl | rfl | rfl | rfl <;> decide +kernel
theorem ps_1 (n : Nat) (u : Int) (F : Nat → Rg) (j : Nat) : ps n u 1 F j = sg n (fun t => F t * pz (u * (1 * t * j))) := rfl
/-- the sign may stand at the place -/
theorem ps_flip (n : Nat) (u s : Int) (F : Nat → Rg) (j : Nat) : ps n u s F j = sg n (fun t => F t * pz (u * ((s * j) * t))) := sg_c (fun t _ => by congr 3; rw [Int.mul_right_comm])
theorem ps_c {n : Nat} {u s : Int} {F G : Nat → Rg} (h : ∀ i, i < n → F i = G i) (j : Nat) : ps n u s F j = ps n u s G j := sg_c (fun i hi => by rw [h i hi])
theorem bk_c {n : Nat} {u : Int} {F G : Nat → Rg} (h : ∀ i, i < n → F i = G i) (j : Nat) : bk n u F j = bk n u G j := by unfold bk; rw [ps_c h]
/-- (2) -/
theorem bk_ps {o n : Nat} (ho : okO o) (hn : okN n) (F : Nat → Rg) {i : Nat} (hi : i < n) : bk n (un o n) (ps n (un o n) 1 F) i = F i := by
  have h := two_sums ho hn F 1 (-1 * i)
  rw [sg_sel (c := i) F (nR n) (fun t => (1 * (t : Int) + -1 * i) % (n : Int) = 0) hi (fun t ht => ?_)] at h
  · unfold bk
    rw [ps_flip, show (fun t => ps n (un o n) 1 F t * pz (un o n * (-1 * (i : Int) * t))) = (fun j : Nat => sg n (fun t => F t * pz (un o n * (1 * t * j))) * pz (un o n * (-1 * (i : Int) * j))) from rfl, h, fr_ms, iv_n hn, fr_m1]
  · constructor
    · intro q
      have := Int.emod_emod_of_dvd ((t : Int) - i) (Int.dvd_refl (n : Int))
      rcases Int.lt_or_le (t : Int) i with z | z
      · have h3 : (1 * (t : Int) + -1 * i) % (n : Int) = (t : Int) - i + n := by
          rw [show 1 * (t : Int) + -1 * i = (t : Int) - i by omega, ← Int.add_emod_right, Int.emod_eq_of_lt (by omega) (by omega)]
        omega
      · have h3 : (1 * (t : Int) + -1 * i) % (n : Int) = (t : Int) - i := by
          rw [show 1 * (t : Int) + -1 * i = (t : Int) - i by omega, Int.emod_eq_of_lt (by omega) (by omega)]
        omega
    · intro q
      subst q
      rw [show 1 * (t : Int) + -1 * t = 0 by omega]
      rfl
theorem ps_bk {o n : Nat} (ho : okO o) (hn : okN n) (F : Nat → Rg) {i : Nat} (hi : i < n) : ps n (un o n) 1 (bk n (un o n) F) i = F i := by
  have h := two_sums ho hn F (-1) (1 * i)
  rw [sg_sel (c := i) F (nR n) (fun t => (-1 * (t : Int) + 1 * i) % (n : Int) = 0) hi (fun t ht => ?_)] at h
  · have e : ps n (un o n) 1 (bk n (un o n) F) i = sg n (fun j => sg n (fun t => F t * pz (un o n * (-1 * t * j))) * pz (un o n * (1 * (i : Int) * j))) * iv (nR n) := by
      rw [ps_flip, ← sg_mulr]
      exact sg_c (fun t _ => by unfold bk ps; rw [fr_ms, fr_mc (iv _), ← fr_ms])
    rw [e, h, fr_ms, iv_n hn, fr_m1]
  · constructor
    · intro q
      rcases Int.lt_or_le (i : Int) t with z | z
      · have h3 : (-1 * (t : Int) + 1 * i) % (n : Int) = (i : Int) - t + n := by
          rw [show -1 * (t : Int) + 1 * i = (i : Int) - t by omega, ← Int.add_emod_right, Int.emod_eq_of_lt (by omega) (by omega)]
        omega
      · have h3 : (-1 * (t : Int) + 1 * i) % (n : Int) = (i : Int) - t := by
          rw [show -1 * (t : Int) + 1 * i = (i : Int) - t by omega, Int.emod_eq_of_lt (by omega) (by omega)]
        omega
    · intro q
      subst q
      rw [show -1 * (t : Int) + 1 * t = 0 by omega]
      rfl
/-- (3) -/
theorem ps_ps {o n : Nat} (ho : okO o) (hn : okN n) (F : Nat → Rg) {j : Nat} (hj : j < n) : ps n (un o n) 1 (ps n (un o n) 1 F) j = F (ix n (-(j : Int))) * nR n := by
  have h := two_sums ho hn F 1 (1 * j)
  rw [sg_sel (c := ix n (-(j : Int))) F (nR n) (fun t => (1 * (t : Int) + 1 * j) % (n : Int) = 0) (ix_lt hn.pos _) (fun t ht => ?_)] at h
  · rw [ps_flip]; exact h
  · have hc := ix_cast hn.pos (-(j : Int))
    rw [show 1 * (t : Int) + 1 * j = (t : Int) + j by omega]
    by_cases z : j = 0
    · subst z
      have e0 : ix n (-((0 : Nat) : Int)) = 0 := by unfold ix; rfl
      rw [e0, show ((t : Int) + ((0 : Nat) : Int)) = t by omega, Int.emod_eq_of_lt (by omega) (by omega)]
      omega
    · have e1 : (-(j : Int)) % (n : Int) = (n : Int) - j := by rw [← Int.add_emod_right, Int.emod_eq_of_lt (by omega) (by omega)]; omega
      rcases Nat.lt_or_ge (t + j) n with y | y
      · rw [Int.emod_eq_of_lt (by omega) (by omega)]; omega
      · have e2 : ((t : Int) + j) % (n : Int) = (t : Int) + j - n := by
          have h9 := Int.add_emod_right ((t : Int) + j - n) (n : Int)
          rw [show (t : Int) + j - n + n = (t : Int) + j by omega] at h9
          rw [h9, Int.emod_eq_of_lt (by omega) (by omega)]
        rw [e2]; omega
/-- values determine their row -/
theorem ps_inj {o n : Nat} (ho : okO o) (hn : okN n) {F G : Nat → Rg} (h : ∀ j, j < n → ps n (un o n) 1 F j = ps n (un o n) 1 G j) {i : Nat} (hi : i < n) : F i = G i := by
  rw [← bk_ps ho hn F hi, ← bk_ps ho hn G hi]
  exact bk_c h i
theorem ps_rot {o n : Nat} (hn : okN n) (F : Nat → Rg) (s : Int) (j : Nat) : sg n (fun k => F (ix n ((k : Int) - s)) * pz (un o n * (1 * k * j))) = ps n (un o n) 1 F j * pz (un o n * (s * j)) := by
  have e : ∀ k : Nat, F (ix n ((k : Int) - s)) * pz (un o n * (1 * k * j)) = (F (ix n ((k : Int) + -s)) * pz (un o n * (1 * ((ix n ((k : Int) + -s) : Nat) : Int) * j))) * pz (un o n * (s * j)) := fun k => by
    rw [show (k : Int) - s = (k : Int) + -s by omega, fr_ms, ← pz_add, ← Int.mul_add]
    congr 1
    refine pz_per hn _ _ ?_
    rw [ix_cast hn.pos, Int.one_mul, Int.one_mul, ← Int.add_mul, Int.mul_emod ((((k : Int) + -s) % (n : Int)) + s), Int.emod_add_emod, ← Int.mul_emod, Int.neg_add_cancel_right]
  rw [sg_c (fun k _ => e k), sg_mulr, sg_rot (fun t => F t * pz (un o n * (1 * (t : Int) * j))) hn.pos (-s)]
  rfl
/-- (4) -/
theorem ps_rp {o n : Nat} (hn : okN n) (F G : Nat → Rg) (j : Nat) : ps n (un o n) 1 (rp n F G) j = ps n (un o n) 1 F j * ps n (un o n) 1 G j := by
  have e : ∀ k : Nat, rp n F G k * pz (un o n * (1 * k * j)) = sg n (fun i => F i * (G (ix n ((k : Int) - i)) * pz (un o n * (1 * k * j)))) := fun k => by
    unfold rp
    rw [← sg_mulr]
    exact sg_c (fun i _ => fr_ms _ _ _)
  unfold ps
  rw [sg_c (fun k _ => e k), sg_swap, ← sg_mulr]
  refine sg_c (fun i _ => ?_)
  rw [sg_mul, ps_rot hn G (i : Int) j, fr_ms, fr_mc (pz _), Int.one_mul]
  rfl
theorem bk_prod {o n : Nat} (ho : okO o) (hn : okN n) (F G : Nat → Rg) {i : Nat} (hi : i < n) : bk n (un o n) (fun j => ps n (un o n) 1 F j * ps n (un o n) 1 G j) i = rp n F G i := by
  rw [← bk_ps ho hn (rp n F G) hi]
  exact bk_c (fun j _ => (ps_rp hn F G j).symm) i
/-- (6) -/
theorem ps_shift {o n : Nat} (hn : okN n) (F : Nat → Rg) (s : Int) (j : Nat) : ps n (un o n) 1 (fun i => F (ix n ((i : Int) - s))) j = ps n (un o n) 1 F j * pz (un o n * (s * j)) := ps_rot hn F s j
theorem ps_weigh {o n : Nat} (hn : okN n) (F : Nat → Rg) (s : Int) (j : Nat) : ps n (un o n) 1 (fun i => F i * pz (un o n * (s * i))) j = ps n (un o n) 1 F (ix n ((j : Int) + s)) := by
  refine sg_c (fun i _ => ?_)
  rw [fr_ms, ← pz_add, ← Int.mul_add]
  congr 1
  refine pz_per hn _ _ ?_
  rw [ix_cast hn.pos, Int.one_mul, Int.mul_comm s, ← Int.mul_add, Int.mul_emod (i : Int) (((j : Int) + s) % (n : Int)), Int.emod_emod_of_dvd _ (Int.dvd_refl _), ← Int.mul_emod, Int.add_comm s]
/-- (8) -/
theorem ps_add (n : Nat) (u s : Int) (F G : Nat → Rg) (j : Nat) : ps n u s (fun i => F i + G i) j = ps n u s F j + ps n u s G j := by
  unfold ps
  rw [← sg_add]
  exact sg_c (fun i _ => fr_rd _ _ _)
theorem ps_mulr (n : Nat) (u s : Int) (F : Nat → Rg) (x : Rg) (j : Nat) : ps n u s (fun i => F i * x) j = ps n u s F j * x := by
  unfold ps
  rw [← sg_mulr]
  exact sg_c (fun i _ => by rw [fr_ms, fr_mc x, ← fr_ms])
/-- (7) -/
theorem ps_sum {o n : Nat} (ho : okO o) (hn : okN n) (F : Nat → Rg) : sg n (fun j => ps n (un o n) 1 F j) = F 0 * nR n := by
  have h := two_sums ho hn F 1 0
  rw [sg_sel (c := 0) F (nR n) (fun t => (1 * (t : Int) + 0) % (n : Int) = 0) hn.pos (fun t ht => by rw [show 1 * (t : Int) + 0 = t by omega, Int.emod_eq_of_lt (by omega) (by omega)]; omega)] at h
  rw [← h]
  exact sg_c (fun j _ => by rw [Int.zero_mul, Int.mul_zero, pz_0, fr_m1]; rfl)
theorem ps_dot {o n : Nat} (ho : okO o) (hn : okN n) (F G : Nat → Rg) : nR n * sg n (fun i => F i * G (ix n (-(i : Int)))) = sg n (fun j => ps n (un o n) 1 F j * ps n (un o n) 1 G j) := by
  rw [sg_c (g := fun j => ps n (un o n) 1 (rp n F G) j) (fun j _ => (ps_rp hn F G j).symm), ps_sum ho hn, fr_mc]
  congr 1
  exact sg_c (fun i _ => by rw [show ((0 : Nat) : Int) - (i : Int) = -(i : Int) by omega])
