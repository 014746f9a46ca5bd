/-- the sums of a row with a sign -/
def ps (n : Nat) (u sgn : Int) (F : Nat → Rg) (j : Nat) : Rg := sg n (fun i => F i * pz (u * (sgn * i * j)))
def nR (n : Nat) : Rg := Fin.ofNat 65537 n
theorem nR_val {n : Nat} (h : n < 65537) : (nR n).val = n := Nat.mod_eq_of_lt h
def bk (n : Nat) (u : Int) (F : Nat → Rg) (j : Nat) : Rg := ps n u (-1) F j * iv (nR n)
theorem hz_mul {x y : Int32} {a b : Int} (hx : x.toInt % 4294967296 = a % 4294967296) (hy : y.toInt % 4294967296 = b % 4294967296) : (x * y).toInt % 4294967296 = (a * b) % 4294967296 := by
  rw [j_mulI, Int.mul_emod, hx, hy, ← Int.mul_emod]
theorem rowIs.eq {σ σ' : cSt} {q n : Nat} {F : Nat → Rg} (h : rowIs σ q n F) (hs : σ'.2.1 q = σ.2.1 q ∧ σ'.2.2 q = σ.2.2 q) : rowIs σ' q n F := ⟨hs.1.trans h.1, fun j hj => by rw [hs.2]; exact h.2 j hj⟩
/-- rows that are kept -/
def cKeep (σ σ' : cSt) (P : Nat → Prop) : Prop := σ'.1 = σ.1 ∧ ∀ q, P q → σ'.2.1 q = σ.2.1 q ∧ σ'.2.2 q = σ.2.2 q
theorem cKeep.of {σ σ' : cSt} {k : Nat} {P : Nat → Prop} (h : cSame σ σ' k) (hP : ∀ q, P q → q ≠ k) : cKeep σ σ' P := ⟨h.1, fun q hq => h.2 q (hP q hq)⟩
theorem cKeep.tr {σ σ' σ2 : cSt} {P : Nat → Prop} (h : cKeep σ σ' P) (h2 : cKeep σ' σ2 P) : cKeep σ σ2 P := ⟨h2.1.trans h.1, fun q hq => ⟨(h2.2 q hq).1.trans (h.2 q hq).1, (h2.2 q hq).2.trans (h.2 q hq).2⟩⟩
theorem cKeep.sub {σ σ' : cSt} {P P' : Nat → Prop} (h : cKeep σ σ' P) (hP : ∀ q, P' q → P q) : cKeep σ σ' P' := ⟨h.1, fun q hq => h.2 q (hP q hq)⟩
theorem cKeep.rf (σ : cSt) (P : Nat → Prop) : cKeep σ σ P := ⟨rfl, fun _ _ => ⟨rfl, rfl⟩⟩
/-- how many numbers differ -/
def cd (F G : Nat → Rg) : Nat → Nat
  | 0 => 0
  | n + 1 => cd F G n + (if F n = G n then 0 else 1)
theorem cd_s (F G : Nat → Rg) (n : Nat) : cd F G (n + 1) = cd F G n + (if F n = G n then 0 else 1) := rfl
theorem cd_le (F G : Nat → Rg) : ∀ n, cd F G n ≤ n
  | 0 => Nat.le_refl 0
  | n + 1 => by have h := cd_le F G n; rw [cd_s]; split <;> omega
/-- the first factor that can do -/
def off (F G : Nat → Rg) : Nat → Nat → Rg
  | 0, _ => 0
  | m + 1, t => if F t = 0 then off F G m (t + 1) else G t * iv (F t)
theorem off_s (F G : Nat → Rg) (m t : Nat) : off F G (m + 1) t = if F t = 0 then off F G m (t + 1) else G t * iv (F t) := rfl
/-- one step of halving -/
def jn (h q : Nat) (u : Int) (P : Nat → Rg) (t : Nat) : Rg :=
  if t % (2 * h) < h then P (t / (2 * h) * h + t % (2 * h)) + P ((t / (2 * h) + q) * h + t % (2 * h)) * pz (u * (t % (2 * h) : Nat))
  else P (t / (2 * h) * h + (t % (2 * h) - h)) - P ((t / (2 * h) + q) * h + (t % (2 * h) - h)) * pz (u * (t % (2 * h) - h : Nat))
def okH (h : Nat) : Prop := h = 1 ∨ h = 2 ∨ h = 4 ∨ h = 8
theorem jn_1 {h q r j : Nat} (u : Int) (P : Nat → Rg) (hh : okH h) (hj : j < h) : jn h q u P (2 * r * h + j) = P (r * h + j) + P ((r + q) * h + j) * pz (u * (j : Int)) := by
  unfold jn
  have h1 : (2 * r * h + j) / (2 * h) = r := by rcases hh with rfl | rfl | rfl | rfl <;> omega
  have h2 : (2 * r * h + j) % (2 * h) = j := by rcases hh with rfl | rfl | rfl | rfl <;> omega
  rw [h1, h2, if_pos hj]
theorem jn_2 {h q r j : Nat} (u : Int) (P : Nat → Rg) (hh : okH h) (hj : j < h) : jn h q u P (2 * r * h + h + j) = P (r * h + j) - P ((r + q) * h + j) * pz (u * (j : Int)) := by
  unfold jn
  have h1 : (2 * r * h + h + j) / (2 * h) = r := by rcases hh with rfl | rfl | rfl | rfl <;> omega
  have h2 : (2 * r * h + h + j) % (2 * h) = h + j := by rcases hh with rfl | rfl | rfl | rfl <;> omega
  have h3 : h + j - h = j := by omega
  rw [h1, h2, if_neg (by omega), h3]
/-- which places are done -/
def jdone (h r j t : Nat) : Prop := t < 2 * r * h ∨ (2 * r * h ≤ t ∧ t < 2 * r * h + j) ∨ (2 * r * h + h ≤ t ∧ t < 2 * r * h + h + j)
theorem jdone_s {h r j t : Nat} (hd : jdone h r (j + 1) t) : jdone h r j t ∨ t = 2 * r * h + j ∨ t = 2 * r * h + h + j := by unfold jdone at *; omega
theorem jdone_r {h r t : Nat} (hh : okH h) (hd : jdone h (r + 1) 0 t) : jdone h r h t := by unfold jdone at *; rcases hh with rfl | rfl | rfl | rfl <;> omega
theorem jdone_e {h q n t : Nat} (hn : 2 * q * h = n) (ht : t < n) : jdone h q 0 t := by unfold jdone; omega
theorem jn_b {h q n r j : Nat} (hh : okH h) (hn : 2 * q * h = n) (h16 : n ≤ 16) (hr : r < q) (hj : j < h) : r * h + j < n ∧ (r + q) * h + j < n ∧ 2 * r * h + j < n ∧ 2 * r * h + h + j < n := by
  rcases hh with rfl | rfl | rfl | rfl <;> omega
